/-! THE CLAIM OUT OF ONE WALK OF THE LAW'S BODY. Your part is whole_start (and what it stands on); all else here is the same for every law, but numbers. -/
def R_law : String := "DueQueueLaw"
def lw_P (b : Addr) (xs : List Int32) (args : Array Value) (s : State) : Prop := args = #[.ref b] ∧ s.IntsAt b xs ∧ xs.length ≤ 3072 ∧ (Jvm.Cond.and given_1 narrow_1).before args s = true
def lw_Q (_ : Array Value) (s : State) (o : Outcome) (t : State) : Prop := o = .returned (some (.int 1)) ∧ Framed s o t [] 601024 7293034
def lw_Z (below : List Frame) (a : Array Value) (s : State) : State → Prop := fun t => ∃ o, t.status = .running ∧ Ended t below o ∧ lw_Q a s o t
/-- the law's own end, with 1 on the stack, nothing written that was there before, its room as the claim has it -/
theorem lw_ret {p : Program} {l : Launch} {e : Env} {s : State} {m : MethodId} {below : List Frame} {meth : Method} {c : Code} {b : Nat} (hx : p.tables.exec = Jvm.exec) (hb : c.code = code) (hr : meth.sig.returnType = ret) (hlocks : meth.locks = false) {pc : Nat} {H : Heap} {ls : Array Slot} (hdg : decode code pc = .ok (.ireturn, 1)) : W p l e room_1 s m #[Value.ref b] below meth c H [] 601024 7293034 (lw_Z below #[Value.ref b] s) (F0 m pc ls [.int 1]) := by
  intro T hT X
  obtain ⟨fs, hret, hrun, hended, hW, hframe⟩ := X.leave (v := some (.int 1)) (hlocks := hlocks) (fun h => by rw [hr] at h; cases h)
  have hmeth' : T.vm.method? m = some meth := X.method'
  refine ⟨T.setFrames fs, ?_, .returned (some (.int 1)), hrun, hended, rfl, ⟨_, rfl⟩, hW, hframe⟩
  jvm_step X.here [X.here.top, hx, hb, hdg, hmeth', hr, ret, narrow_b1]
  (try refine ⟨rfl, ?_⟩); (try refine ⟨rfl, ?_⟩)
  first | (intro acts; rw [hret _ acts rfl rfl rfl]) | rw [hret _ _ rfl rfl rfl]
  exact Steps.refl _
/-- what holds at the law's entry: the machine, the code, the tables' words (any of lw_tbl by 'hts w (by decide +kernel)'), the script of L ints xs at the cell b, what the Statement gives of the start (any of its parts by flat_of_before) -/
def lw_At (p : Program) (s : State) (m : MethodId) (meth : Method) (c : Code) (b L : Nat) (xs : Nat → Int32) : Prop :=
  p.tables.exec = Jvm.exec ∧ c.code = code ∧ meth.sig.returnType = ret ∧ c.maxLocals = 8 ∧ s.vm.findClass R_law = some m.cls ∧ (∀ w ∈ lw_tbl, w.before #[Value.ref b] s = true) ∧ va_X b L xs s s.heap ∧ b < s.heap.size ∧ meth.locks = false ∧ (Jvm.Cond.and given_1 narrow_1).before #[Value.ref b] s = true
set_option maxHeartbeats 4000000 in
set_option maxRecDepth 100000 in
/-- the law, from a proof about the pure machine -/
theorem law_of {p : Program} {e : Env} {s : State} {m : MethodId} {below : List Frame} {meth : Method} {c : Code} (l : Launch) (hflags : l.flags = flags0) {b L : Nat} {xs : Nat → Int32} (C0 : lw_At p s m meth c b L xs) (hall : ∀ a ∈ pm_all, pm_bk a = true) (hlaw : pm_bk 2021 = true) {d : Nat} (hd : d ≤ 1000)
    (HP : pm_W PP d 2021 (fun r _ => r = .inl (some (.int 1))) 601024 7293034 0 [some (.ref 0), none, none, none, none, none, none, none] [] (hz0 L xs)) :
    W p l e room_1 s m #[Value.ref b] below meth c s.heap [] 0 0 (lw_Z below #[Value.ref b] s) (entryFrame m ([Value.ref b] : List Value).toArray 8) := by
  obtain ⟨hx, hb, hr, hml, hown, hts, hX, hbl, hlocks, hgv⟩ := id C0
  have hrt := hr
  have hTb := pm_Tb.of hts
  obtain ⟨D, cA, hK⟩ := st_class hTb hts
  obtain ⟨aS, hCs⟩ := st_cst (flat_of_before _ hgv) hts hX hbl
  have hhk : pm_hk 2021 = true := by have h9 := hlaw; unfold pm_bk at h9; rw [Bool.and_eq_true] at h9; exact h9.1
  have hC : pm_Cx p room_1 s m meth c D cA b s.heap.size L aS xs 2021 601024 7293034 (d + 1) := ⟨hx, hb, hml, hown, hTb, hK, hCs, Nat.le_refl _, Nat.le_refl _, Nat.le_refl _, by show 10 + (d + 1) ≤ 2048; omega, by show 200 + 60 * (d + 1) ≤ 84000; omega, fun q => absurd q (by decide +kernel)⟩
  have hrel : pm_Rel D cA (pm_ad b s.heap.size aS) s.heap.size L xs (hz0 L xs) s.heap := by
    refine ⟨fun k q hq => by (have e9 : pm_ws cA (pm_ad b s.heap.size aS) (hz0 L xs) = [] := rfl); rw [e9] at hq; simp at hq, ⟨Nat.le_refl 32, fun o => ?_⟩, fun _ => rfl, Nat.le_refl _, fun _ => ⟨rfl, rfl⟩⟩
    have e9 : hT (hz0 L xs) o = if o = 0 then 110 else 999 := rfl
    rw [e9]
    by_cases h0 : o = 0
    · rw [if_pos h0]; refine ⟨fun q => ?_, fun q1 q2 => ?_, fun _ => h0⟩ <;> omega
    · rw [if_neg h0]; refine ⟨fun q => ?_, fun q1 q2 => ?_, fun q => ?_⟩ <;> omega
  have hl := lv_entry ([.ref b]) (n := 8) (Nat.le_of_ble_eq_true rfl)
  rw [lg_entry_eq]
  generalize (lg_sl ([.ref b]) ++ List.replicate (8 - (lg_sl ([.ref b])).length) Slot.unset).toArray = lr at hl ⊢
  have hl : lv_has lr (pm_mx 2021) (las (pm_ad b s.heap.size aS) 0 [some (.ref 0), none, none, none, none, none, none, none]) := hl
  refine pm_blocks (Z := lw_Z below #[Value.ref b] s) hC hlaw (fun a as h k q1 q2 => pm_sound (st_fl l hflags) hall d a as h k q1 q2) ?_ ?_ _ _ _ _ _ _ HP s.heap [] lr 0 0 hrel va_S.rf hl rfl (Nat.le_refl _) (Nat.le_refl _)
  · intro n pc bc bs ls h' H1 locs1 lr cells slots rest q9 ce hn hcov hk hr1 hS1 hl hlen hcb hsb q1 q2 q3
    have h0 : pm_hd 2021 n = none := of_decide_eq_true (pm_hk_at hhk hn)
    rw [h0] at hk
    cases hk
  · intro o k pc bc bs ls st h hck he Hop
    obtain ⟨i, a, b9, c9, d9, e9⟩ := o
    cases i with
    | ireturn =>
      simp only [pm_ck, Bool.and_eq_true] at hck
      simp only [pm_1] at Hop
      split at Hop
      · rename_i v
        obtain ⟨hv, HQ⟩ := Hop
        cases HQ
        intro H locs lr cells slots hr hS hl hlen hcb hsb
        refine va_forget hS.2.2 ?_
        refine W.widen (k := 601024) (n := 7293034) (by omega) (by omega) ?_
        have hdg : decode code pc = .ok (.ireturn, 1) := pm_dcE hck.2
        exact lw_ret hx hb hrt hlocks hdg
      · exact Hop.elim
    | lreturn => simp only [pm_ck, Bool.and_eq_true, decide_eq_true_eq] at hck; exact absurd hck.1 (by decide +kernel)
    | areturn => simp only [pm_ck, Bool.and_eq_true] at hck; exact absurd hck.1 (by decide +kernel)
    | return_ => simp only [pm_ck, Bool.and_eq_true, decide_eq_true_eq] at hck; exact absurd hck.1 (by decide +kernel)
    | new ix =>
      simp only [pm_end, decide_eq_true_eq] at he
      simp only [pm_ck] at hck
      rw [if_neg he] at hck
      rw [Bool.and_eq_true, Bool.and_eq_true, Bool.and_eq_true, Bool.and_eq_true, Bool.and_eq_true, Bool.and_eq_true, Bool.and_eq_true, Bool.and_eq_true] at hck
      exact absurd (of_decide_eq_true hck.1.2) (fun q => q rfl)
    | _ => cases he
