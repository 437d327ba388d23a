/-! THE ENGINE over the machine: calls, and the whole -/
theorem a_take_inv : ∀ (n : Nat) (acc st as r : List aV), a_take n acc st = some (as, r) → ∃ tk : List aV, tk.length = n ∧ st = tk ++ r ∧ as = tk.reverse ++ acc
  | 0, acc, st, as, r, h => by
    simp only [a_take, Option.some.injEq, Prod.mk.injEq] at h
    obtain ⟨rfl, rfl⟩ := h
    exact ⟨[], rfl, rfl, rfl⟩
  | n + 1, acc, [], as, r, h => by cases h
  | n + 1, acc, v :: st, as, r, h => by
    simp only [a_take] at h
    obtain ⟨tk, h1, h2, h3⟩ := a_take_inv n (v :: acc) st as r h
    exact ⟨v :: tk, by simp [h1], by simp [h2], by simp [h3]⟩
theorem a_take0 {n : Nat} {st as r : List aV} (h : a_take n [] st = some (as, r)) : as.length = n ∧ st = as.reverse ++ r := by
  obtain ⟨tk, h1, h2, h3⟩ := a_take_inv n [] st as r h
  simp only [List.append_nil] at h3
  subst h3
  exact ⟨by simp [h1], by simp [h2]⟩
/-- no call -/
def a_nc (x : Option (Bool × aR)) : Prop := ∀ (g : Bool) (v : Nat × List aV × aF), x ≠ some (g, .inr (.inl v))
theorem a_nc_none : a_nc none := fun _ _ h => by cases h
theorem a_nc_inl {g : Bool} {q : aF × aK × aS} : a_nc (some (g, .inl q)) := fun _ _ h => by simp at h
theorem a_nc_call {g : Bool} {q : Option aV} : a_nc (some (g, .inr (.inr q))) := fun _ _ h => by simp at h
theorem a_nc_pI {st : List aV} {f : Int32 → List aV → Option (Bool × aR)} (h : ∀ x r, a_nc (f x r)) : a_nc (a_pI st f) := fun g v q => by
  obtain ⟨x, r, -, h_1⟩ := a_pI_some q
  exact h x r g v h_1
theorem a_nc_pL {st : List aV} {f : Int64 → List aV → Option (Bool × aR)} (h : ∀ x r, a_nc (f x r)) : a_nc (a_pL st f) := fun g v q => by
  obtain ⟨x, r, -, h_1⟩ := a_pL_some q
  exact h x r g v h_1
theorem a_nc_pR {st : List aV} {f : Nat → List aV → Option (Bool × aR)} (h : ∀ x r, a_nc (f x r)) : a_nc (a_pR st f) := fun g v q => by
  obtain ⟨x, r, -, h_1⟩ := a_pR_some q
  exact h x r g v h_1
theorem a_nc_pT {st : List aV} {f : Option Nat → List aV → Option (Bool × aR)} (h : ∀ x r, a_nc (f x r)) : a_nc (a_pT st f) := fun g v q => by
  obtain ⟨x, r, -, h_1⟩ := a_pT_some q
  exact h x r g v h_1
theorem a_nc_pV {st : List aV} {f : aV → List aV → Option (Bool × aR)} (h : ∀ x r, a_nc (f x r)) : a_nc (a_pV st f) := fun g v q => by
  obtain ⟨x, r, -, h_1⟩ := a_pV_some q
  exact h x r g v h_1
theorem a_nc_lI {ls : aL} {i : Nat} {f : Int32 → Option (Bool × aR)} (h : ∀ x, a_nc (f x)) : a_nc (a_lI ls i f) := fun g v q => by
  obtain ⟨x, -, h_1⟩ := a_lI_some q
  exact h x g v h_1
theorem a_nc_lL {ls : aL} {i : Nat} {f : Int64 → Option (Bool × aR)} (h : ∀ x, a_nc (f x)) : a_nc (a_lL ls i f) := fun g v q => by
  obtain ⟨x, -, h_1⟩ := a_lL_some q
  exact h x g v h_1
theorem a_nc_lA {ls : aL} {i : Nat} {f : aV → Option (Bool × aR)} (h : ∀ x, a_nc (f x)) : a_nc (a_lA ls i f) := fun g v q => by
  obtain ⟨x, -, -, h_1⟩ := a_lA_some q
  exact h x g v h_1
def a_isinv (i : Instr) : Bool := match i with
  | .invokevirtual _ | .invokespecial _ | .invokestatic _ => true
  | _ => false
set_option maxHeartbeats 8000000 in
set_option maxRecDepth 100000 in
theorem a_nc_ex {al : Bool} {o : aO} {m : aM} {pc : Nat} {ls : aL} {st : List aV} {k : aK} {s : aS} (hr : a_isinv o.1 = false) : a_nc (a_ex al o m pc ls st k s) := by
  unfold a_ex
  split
  all_goals first
    | (rename_i hi; rw [hi] at hr; cases hr; done)
    | (try simp only [a_nx, a_op2, a_opL2, a_put_fld, a_bld, a_aald, a_ast, a_bst, a_aast, a_virt, a_spec, a_stat, a_math, a_copy, a_call, a_new]
       repeat' (first
         | with_reducible exact a_nc_none
         | with_reducible exact a_nc_inl
         | with_reducible exact a_nc_call
         | with_reducible refine a_nc_pI (fun _ _ => ?_)
         | with_reducible refine a_nc_pL (fun _ _ => ?_)
         | with_reducible refine a_nc_pR (fun _ _ => ?_)
         | with_reducible refine a_nc_pT (fun _ _ => ?_)
         | with_reducible refine a_nc_pV (fun _ _ => ?_)
         | with_reducible refine a_nc_lI (fun _ => ?_)
         | with_reducible refine a_nc_lL (fun _ => ?_)
         | with_reducible refine a_nc_lA (fun _ => ?_)
         | split))
theorem a_mci : ∀ c ∈ m_ci, c ≤ 90 := by decide +kernel
/-- the calls -/
theorem a_call_inv {al : Bool} {o : aO} {m : aM} {pc : Nat} {ls : aL} {st : List aV} {k : aK} {s : aS} {z : Nat} {as : List aV} {F1 : aF} (h : a_ex al o m pc ls st k s = some (true, .inr (.inl (z, as, F1)))) : z = o.2.2.1 ∧ ∃ (idx : Nat) (bs r : List aV), F1 = (m, pc + 3, ls, r) ∧ a_room r = true ∧
    ((∃ v cl, o.1 = .invokevirtual idx ∧ as = v :: bs ∧ a_take o.2.2.2.1 [] st = some (bs, v :: r) ∧ a_tki v = true ∧ Nat.beq o.2.2.1 9002 = false ∧ a_cls k v = some cl ∧ m_ci[o.2.2.1]? = some cl) ∨
     (∃ a, o.1 = .invokespecial idx ∧ as = .inl (.ref a) :: bs ∧ a_take o.2.2.2.1 [] st = some (bs, .inl (.ref a) :: r) ∧ Nat.beq o.2.2.1 9000 = false) ∨
     (o.1 = .invokestatic idx ∧ as = bs ∧ a_take o.2.2.2.1 [] st = some (bs, r) ∧ Nat.beq o.2.2.1 9001 = false ∧ (a_ge o.2.2.1 9010 && Nat.blt o.2.2.1 9999) = false)) := by
  cases hi : o.1 with
  | invokevirtual idx =>
    simp only [a_ex, hi, a_virt] at h
    split at h
    · cases h
    · rename_i q hq
      split at h
      · cases h
      · rename_i v r hvr
        split at h
        · split at h <;> simp at h
        · rename_i h92
          split at h
          · rename_i cl hcl
            rw [a_nth_eq] at h
            split at h
            · rename_i z9 hz9
              split at h
              · rename_i hcz
                have hcz := Nat.eq_of_beq_eq_true hcz
                simp only [Option.some.injEq, Prod.mk.injEq, Sum.inr.injEq, Sum.inl.injEq] at h
                obtain ⟨hg, rfl, rfl, rfl⟩ := h
                split at hg
                · rename_i hroom
                  refine ⟨rfl, idx, q.1, r, rfl, hroom, Or.inl ⟨v, cl, rfl, rfl, ?_, hg, h92, hcl, by rw [hz9, hcz]⟩⟩
                  rw [hq, ← hvr]
                · cases hg
              · cases h
            · cases h
          · cases h
  | invokespecial idx =>
    simp only [a_ex, hi, a_spec] at h
    split at h
    · cases h
    · rename_i q hq
      split at h
      · rename_i a r hvr
        split at h
        · simp at h
        · rename_i h90
          simp only [a_call, Option.some.injEq, Prod.mk.injEq, Sum.inr.injEq, Sum.inl.injEq] at h
          obtain ⟨hroom, rfl, rfl, rfl⟩ := h
          refine ⟨rfl, idx, q.1, r, rfl, hroom, Or.inr (Or.inl ⟨a, rfl, rfl, ?_, h90⟩)⟩
          rw [hq, ← hvr]
      · cases h
  | invokestatic idx =>
    simp only [a_ex, hi, a_stat] at h
    split at h
    · exfalso
      unfold a_copy at h
      obtain ⟨_, _, rfl, h_1⟩ := a_pI_some h
      obtain ⟨_, _, rfl, h_2⟩ := a_pI_some h_1
      obtain ⟨_, _, rfl, h_3⟩ := a_pR_some h_2
      obtain ⟨_, _, rfl, h_4⟩ := a_pI_some h_3
      obtain ⟨_, _, rfl, h_5⟩ := a_pR_some h_4
      split at h_5
      · split at h_5
        · split at h_5
          · split at h_5
            · simp at h_5
            · split at h_5 <;> simp at h_5
          · cases h_5
        · cases h_5
      · cases h_5
    · rename_i h91
      split at h
      · exfalso
        unfold a_math at h
        split at h
        · obtain ⟨_, _, rfl, h_1⟩ := a_pI_some h
          obtain ⟨_, _, rfl, h_2⟩ := a_pI_some h_1
          simp at h_2
        · obtain ⟨_, _, rfl, h_1⟩ := a_pI_some h
          obtain ⟨_, _, rfl, h_2⟩ := a_pI_some h_1
          simp at h_2
        · obtain ⟨_, _, rfl, h_1⟩ := a_pI_some h
          simp at h_1
        · obtain ⟨_, _, rfl, h_1⟩ := a_pL_some h
          obtain ⟨_, _, rfl, h_2⟩ := a_pL_some h_1
          simp at h_2
        · obtain ⟨_, _, rfl, h_1⟩ := a_pL_some h
          obtain ⟨_, _, rfl, h_2⟩ := a_pL_some h_1
          simp at h_2
        · cases h
      · rename_i h92
        split at h
        · cases h
        · rename_i q hq
          simp only [a_call, Option.some.injEq, Prod.mk.injEq, Sum.inr.injEq, Sum.inl.injEq] at h
          obtain ⟨hroom, rfl, rfl, rfl⟩ := h
          exact ⟨rfl, idx, q.1, q.2, rfl, hroom, Or.inr (Or.inr ⟨rfl, rfl, hq, h91, Bool.eq_false_iff.mpr (fun z => by simp [z] at h92)⟩)⟩
  | _ => exact absurd h (a_nc_ex (by rw [hi]; rfl) _ _)
section CALLS
variable {l : Launch} {E : aE} {al : Bool} {p : Program} {e : Env} {s : State} {m : MethodId} {args : Array Value} {below : List Frame} {meth : Method} {c : Code} {mc ms : Nat} {Q : State → Prop} {k0 : aK}
/-- a callee's words: any method's -/
def a_wsz (z maxL : Nat) : List Cond := .code (a_nm z) (a_by z) maxL (a_rt z) :: a_LW
/-- a contract, out of the runs of the engine -/
def a_MetOf (l : Launch) (E : aE) (al : Bool) (z maxL : Nat) (as : List aV) (k : aK) (t : aS) (r : Option aV) (k1 : aK) (t1 : aS) : Prop :=
  Met l (a_nm z) (a_wsz z maxL) (a_rm z (k1.length - k.length) (a_nsz k1 - a_nsz k)) (va_Pc (as.map (a_tv E)) (fun U => a_Hd E al k t U.heap ∧ a_Ev E U)) (a_Q E al r k1 t1) (k1.length - k.length) (a_nsz k1 - a_nsz k) (a_A E)
/-- behind a call -/
theorem a_callW {R : Room} {H : Heap} {locs : List Loc} {cells slots mc1 ms1 : Nat} {pc : Nat} {lr : Array Slot} {st0 rest : List Value} {r : Option aV} {k1 : aK} {t1 : aS} {av : Array Value} (hr : va_Run p l e R s m args below meth c H locs cells slots mc1 ms1 (F0 m pc lr st0) rest (a_Q E al r k1 t1 av) (a_A E)) (hS : va_S (a_A E) s.heap H locs)
    (kk : ∀ (H1 : Heap) (locs1 : List Loc), a_Hd E al k1 t1 H1 → va_S (a_A E) s.heap H1 locs1 → W p l e R s m args below meth c H1 locs1 (cells + mc1) (slots + ms1) Q (F0 m (pc + 3) lr ((r.map (a_tv E)).toList ++ rest))) : W p l e R s m args below meth c H locs cells slots Q (F0 m pc lr st0) := by
  intro T hT X
  obtain ⟨v, st₀, t, T', L, h0, X', hL, e1, e2, ⟨hv, hHd, hF⟩, stp⟩ := hr T hT X
  cases hv
  rw [← e1] at hHd
  obtain ⟨t2, a1, b1⟩ := kk T'.heap (locs ++ L) hHd ⟨Nat.le_trans hS.1 (by rw [e1, ← h0]; exact hF.1), fun q h1 h2 => by rw [e1, hF.2 q (by rw [h0]; exact Nat.lt_of_lt_of_le h1 hS.1) h2, h0]; exact hS.2.1 q h1 h2, fun q hq => by
      rcases List.mem_append.mp hq with h | h
      · exact hS.2.2 q h
      · exact hL q h⟩ T' rfl X'
  exact ⟨t2, stp t2 a1, b1⟩
theorem a_okC_spec {y z n : Nat} {mz : aM} (h : a_okC y z n = true) (hz : a_nth pgL z = some mz) : a_rk z < a_rk y ∧ mz.1 = z ∧ mz.2.2.1 + 19 ≤ 40 ∧ Cond.code (a_nm z) (a_by z) mz.2.2.1 (a_rt z) ∈ a_LW ∧ Cond.initialized (a_nm z).cls ∈ a_LW ∧ ((a_nm z).cls ≠ "java/lang/invoke/MethodHandle" ∧ (a_nm z).cls ≠ "java/lang/invoke/VarHandle") ∧ (parseMethodDescriptor (a_nm z).desc).map (fun d => d.parameters.length) = some n ∧ plainName (a_nm z).cls = true := by
  unfold a_okC at h
  rw [hz] at h
  simp only [Bool.and_eq_true, Nat.blt_eq, decide_eq_true_eq, Nat.beq_eq] at h
  obtain ⟨h1, h2, h3, h4, h5, h6, h7, h8⟩ := h
  exact ⟨h1, h2, Nat.le_of_ble_eq_true h3, a_lnk_in h4, a_lnk_in h5, h6, h7, h8⟩
theorem a_wsz_good {z maxL : Nat} (h : Cond.code (a_nm z) (a_by z) maxL (a_rt z) ∈ a_LW) : ∀ w ∈ a_wsz z maxL, w ∈ a_LW := fun w hw => by
  rcases List.mem_cons.mp hw with rfl | h9
  · exact h
  · exact h9
set_option maxHeartbeats 4000000 in
theorem a_inv_ok {m0 : aM} {pc : Nat} {ls : aL} {st : List aV} {k k1 : aK} {t t1 : aS} {o : aO} {z : Nat} {as : List aV} {F1 : aF} {mz : aM} {r1 : Option aV} (hC : a_Cx E m0 p s m args meth c) (hdec : decode (a_by m0.1) pc = .ok (o.1, a_ln o.1 o.2.1)) (hI : a_okI m0.1 o = true)
    (h : a_ex al o m0 pc ls st k t = some (true, .inr (.inl (z, as, F1)))) (hz : a_nth pgL z = some mz) (hk0 : k0.length ≤ k.length ∧ a_nsz k0 ≤ a_nsz k) (hk1 : k.length ≤ k1.length ∧ a_nsz k ≤ a_nsz k1) (hkl : k1.length - k0.length ≤ mc) (hks : a_nsz k1 - a_nsz k0 ≤ ms) (hMet : a_MetOf l E al z mz.2.2.1 as k t r1 k1 t1)
    (hJ : F1.1 = m0 ∧ F1.2.2.1 = ls → a_J l E al m0 p e s m args below meth c mc ms Q k0 (a_push r1 F1) k1 t1) : a_J l E al m0 p e s m args below meth c mc ms Q k0 (m0, pc, ls, st) k t := by
  obtain ⟨hx, hb, hr, hml, hown, hts, hlk, hnm, hEv⟩ := hC
  have hcat := hEv.cat
  have hK := hEv.1
  have hSt := hEv.2.1
  intro H locs lr hH hS hL
  obtain ⟨rfl, idx, bs, r, rfl, hroom, hcase⟩ := a_call_inv h
  have hJ2 := fun H1 locs1 w1 w2 => hJ ⟨rfl, rfl⟩ H1 locs1 lr w1 w2 (by cases r1 <;> exact hL)
  have h8 := a_room_le hcat hroom
  have hpre : ∀ U : State, U.heap = H → s.WarmedH U.vm → a_Hd E al k t U.heap ∧ a_Ev E U := fun U hU hW => ⟨by rw [hU]; exact hH, hEv.go hW (by rw [hU]; exact Nat.le_trans hEv.2.2.1 hS.1) (fun a q1 q2 => by rw [hU]; exact hS.2.1 a q1 q2)⟩
  have hblind : ∀ (vs : List Value), FrameBlind (va_Pc vs (fun U => a_Hd E al k t U.heap ∧ a_Ev E U)) := fun vs a U g mk q => ⟨q.1, q.2.1, q.2.2.calling g mk a⟩
  have hroomf : k.length - k0.length + (k1.length - k.length) ≤ (a_rm m0.1 mc ms).cells ∧ a_nsz k - a_nsz k0 + (a_nsz k1 - a_nsz k) ≤ (a_rm m0.1 mc ms).slots := ⟨by show _ ≤ mc; have := hk0.1; have := hk1.1; omega, by show _ ≤ ms; have := hk0.2; have := hk1.2; omega⟩
  have hnext : ∀ (H1 : Heap) (locs1 : List Loc), a_Hd E al k1 t1 H1 → va_S (a_A E) s.heap H1 locs1 → W p l e (a_rm m0.1 mc ms) s m args below meth c H1 locs1 (k.length - k0.length + (k1.length - k.length)) (a_nsz k - a_nsz k0 + (a_nsz k1 - a_nsz k)) Q (F0 m (pc + 3) lr ((r1.map (a_tv E)).toList ++ r.map (a_tv E))) := by
    intro H1 locs1 w1 w2
    have h1 := hJ2 H1 locs1 w1 w2
    rw [show k.length - k0.length + (k1.length - k.length) = k1.length - k0.length by have := hk0.1; have := hk1.1; omega, show a_nsz k - a_nsz k0 + (a_nsz k1 - a_nsz k) = a_nsz k1 - a_nsz k0 by have := hk0.2; have := hk1.2; omega]
    cases r1 <;> exact h1
  rcases hcase with ⟨v, cl, hi, rfl, htk, htki, h92, hcl, hmci⟩ | ⟨a, hi, rfl, htk, h90⟩ | ⟨hi, rfl, htk, h91, h99⟩
  · rw [hi] at hdec
    simp only [a_okI, hi, h92, Bool.or_eq_true, Bool.and_eq_true, decide_eq_true_eq] at hI
    obtain ⟨hln, rfl⟩ := a_take0 htk
    rcases hI with hI | hI
    · exfalso
      rw [Nat.eq_of_beq_eq_true hI] at hmci
      exact absurd (List.getElem?_eq_some_iff.mp hmci).1 (by decide +kernel)
    · obtain ⟨hI1, hI2, hI3, hI4, hI5⟩ := hI
      obtain ⟨c1, c2, c3, c4, c5, c6, c7, c8⟩ := a_okC_spec hI1 hz
      have hmc9 : m_ci.getD o.2.2.1 0 = cl := by simp [List.getD, hmci]
      rw [hmc9] at hI5
      have hcl90 : cl ≤ 90 := a_mci cl (List.mem_of_getElem? hmci)
      have hrec : ∃ b : Nat, a_tv E v = .ref b ∧ ∃ cellB : Cell, H[b]? = some cellB ∧ cellB.vm.isStatics = false ∧ s.vm.findClass (a_nm o.2.2.1).cls = some cellB.cls := by
        unfold a_cls at hcl
        split at hcl
        · rename_i a
          obtain ⟨a9, rfl⟩ : ∃ a9 : Nat, a9 = a := ⟨a, rfl⟩
          refine ⟨a_ad E a9, rfl, ?_⟩
          split at hcl
          · rename_i hlt
            rw [a_ad_lt (Nat.blt_eq.mp hlt)]
            rw [a_nth_eq] at hcl
            split at hcl
            · rename_i q hq
              cases hcl
              have hlt9 : q.1 < 100 := by omega
              obtain ⟨hc12, -, -⟩ := hH.2.2.1 a9 q hq hlt9
              obtain ⟨C, T, N, ty, hc, -⟩ := a_clsOK q.1 hc12
              have he := a_ws_at (E := E) (s := t) hq
              rw [a_cell_obj hlt9] at he
              have := va_recv hK hH.1 hc he
              unfold a_clsName at hI5
              rw [hc] at hI5
              rw [← hI5]
              exact this
            · cases hcl
          · rename_i hlt
            have hage : ¬ a9 < 1000 := fun z9 => (by rw [Nat.blt_eq.mpr z9] at hlt; cases hlt)
            rw [a_ad_ge hage]
            split at hcl
            · rename_i g1
              split at hcl
              · rename_i g2
                cases hcl
                have g1 : 3000 ≤ a9 := Nat.le_of_ble_eq_true g1
                have g2 : a9 ≤ 3038 := Nat.le_of_ble_eq_true g2
                obtain ⟨cell, q1, q2, q3, q4⟩ := ((hSt.1 (a9 - 3000) (by omega)).2.2.2.2.2.1).kept hS.2.1
                rw [show 3000 + (a9 - 3000) = a9 by omega] at q1
                rw [← hI5]
                exact ⟨cell, q1, q2, q3⟩
              · cases hcl
            · cases hcl
        · rename_i i
          cases hcl
          have hi39 : i < 39 := Nat.blt_eq.mp htki
          obtain ⟨cell, q1, q2, q3, q4⟩ := ((hSt.1 i hi39).2.1).kept hS.2.1
          refine ⟨_, rfl, cell, q1, q2, ?_⟩
          rw [← hI5]
          exact q3
        · cases hcl
      obtain ⟨b, hvb, hcell⟩ := hrec
      have hMet2 : Met l (a_nm o.2.2.1) (a_wsz o.2.2.1 mz.2.2.1) (a_rm o.2.2.1 (k1.length - k.length) (a_nsz k1 - a_nsz k)) (va_Pc (.ref b :: bs.map (a_tv E)) (fun U => a_Hd E al k t U.heap ∧ a_Ev E U)) (a_Q E al r1 k1 t1) (k1.length - k.length) (a_nsz k1 - a_nsz k) (a_A E) := by
        have := hMet
        unfold a_MetOf at this
        rw [List.map_cons, hvb] at this
        exact this
      have hstk : (m0, pc, ls, bs.reverse ++ v :: r).2.2.2.map (a_tv E) = (bs.map (a_tv E)).reverse ++ .ref b :: r.map (a_tv E) := by
        simp [hvb]
      rw [hstk]
      refine a_callW (va_runV (n := o.2.2.2.1) (C := (a_nm o.2.2.1).cls) (As := bs.map (a_tv E)) (rest := r.map (a_tv E)) ⟨hx, hb, hml, hown, hts⟩ hMet2 (cwV _ hts (a_good_LW (fun w hw => ?_)) rfl rfl rfl ⟨rfl, c6.1, c6.2, c7⟩ ⟨?_, ?_⟩) ⟨hblind _, hcell, fun U hU hW => ⟨rfl, hpre U hU hW⟩⟩ rfl (by rw [List.length_map]; exact hln) hL.1 rfl (lv_room h8) hdec hroomf) hS hnext
      · simp only [wsV, List.mem_append, List.mem_cons, List.not_mem_nil, or_false] at hw
        rcases hw with (rfl | rfl | rfl | rfl) | hw
        · exact a_lnk_in hI2
        · exact a_lnk_in hI3
        · exact a_lnk_in hI4
        · exact c5
        · exact a_wsz_good c4 w hw
      · show a_rk o.2.2.1 + 1 ≤ a_rk m0.1
        omega
      · show 8 + (mz.2.2.1 + 11) + 40 * a_rk o.2.2.1 ≤ 40 * a_rk m0.1
        omega
  · rw [hi] at hdec
    simp only [a_okI, hi, h90, Bool.or_eq_true, Bool.and_eq_true, decide_eq_true_eq] at hI
    obtain ⟨hln, rfl⟩ := a_take0 htk
    rcases hI with hI | hI
    · exfalso
      rw [Nat.eq_of_beq_eq_true hI, a_nth_eq] at hz
      exact absurd (List.getElem?_eq_some_iff.mp hz).1 (by decide +kernel)
    · obtain ⟨hI1, ⟨hI2, hI3⟩, hI4, hI5⟩ := hI
      obtain ⟨c1, c2, c3, c4, c5, c6, c7, c8⟩ := a_okC_spec hI1 hz
      have hMet2 : Met l (a_nm o.2.2.1) (a_wsz o.2.2.1 mz.2.2.1) (a_rm o.2.2.1 (k1.length - k.length) (a_nsz k1 - a_nsz k)) (va_Pc (.ref (a_ad E a) :: bs.map (a_tv E)) (fun U => a_Hd E al k t U.heap ∧ a_Ev E U)) (a_Q E al r1 k1 t1) (k1.length - k.length) (a_nsz k1 - a_nsz k) (a_A E) := hMet
      have hstk : (m0, pc, ls, bs.reverse ++ .inl (.ref a) :: r).2.2.2.map (a_tv E) = (bs.map (a_tv E)).reverse ++ .ref (a_ad E a) :: r.map (a_tv E) := by
        simp [a_tv]
      rw [hstk]
      have hw9 : a_wsz o.2.2.1 mz.2.2.1 = Cond.code (a_nm o.2.2.1) (a_by o.2.2.1) mz.2.2.1 none :: a_LW := by unfold a_wsz; rw [hI3]
      have hfr : (a_rm o.2.2.1 (k1.length - k.length) (a_nsz k1 - a_nsz k)).frames + 1 ≤ (a_rm m0.1 mc ms).frames ∧ 8 + (mz.2.2.1 + 11) + (a_rm o.2.2.1 (k1.length - k.length) (a_nsz k1 - a_nsz k)).locals ≤ (a_rm m0.1 mc ms).locals := ⟨by show a_rk o.2.2.1 + 1 ≤ a_rk m0.1; omega, by show 8 + (mz.2.2.1 + 11) + 40 * a_rk o.2.2.1 ≤ 40 * a_rk m0.1; omega⟩
      rcases hI5 with hI5 | hI5
      · exact a_callW (va_runI (n := o.2.2.2.1) (As := bs.map (a_tv E)) (rest := r.map (a_tv E)) ⟨hx, hb, hml, hown, hts⟩ hMet2 (cwI _ hts (a_good_LW (a_wsz_good c4)) hw9 rfl rfl (hts _ c5) (hts _ (a_lnk_in hI5)) (hts _ (a_lnk_in hI4)) hI2 ⟨c6.1, c6.2, c7⟩ hfr) ⟨hblind _, fun U hU hW => ⟨rfl, hpre U hU hW⟩⟩ rfl (by rw [List.length_map]; exact hln) hL.1 rfl (lv_room h8) hdec hroomf) hS hnext
      · have hnest : va_Nw (.methodLinkNest (a_nm m0.1).cls idx (a_nm o.2.2.1) "WindowLoans") s := by
          rcases hI5 with q | q <;> rw [q]
          · exact hEv.2.2.2.2.1
          · exact hEv.2.2.2.2.2.1
        exact a_callW (va_runIN (n := o.2.2.2.1) (As := bs.map (a_tv E)) (rest := r.map (a_tv E)) ⟨hx, hb, hml, hown, hts⟩ hMet2 ⟨va_cnB _ hts (a_good_LW (a_wsz_good c4)) hw9 rfl rfl hnest (hts _ c5) ⟨c6.1, c6.2, c7⟩ hfr, hI2, hts _ (a_lnk_in hI4)⟩ ⟨hblind _, fun U hU hW => ⟨rfl, hpre U hU hW⟩⟩ rfl (by rw [List.length_map]; exact hln) hL.1 rfl (lv_room h8) hdec hroomf) hS hnext
  · rw [hi] at hdec
    simp only [a_okI, hi, h91, h99, Bool.or_eq_true, Bool.and_eq_true] at hI
    obtain ⟨hln, rfl⟩ := a_take0 htk
    rcases hI with hI | hI
    · exfalso
      rw [Nat.eq_of_beq_eq_true hI, a_nth_eq] at hz
      exact absurd (List.getElem?_eq_some_iff.mp hz).1 (by decide +kernel)
    · obtain ⟨hI1, hI2, hI3⟩ := hI
      obtain ⟨c1, c2, c3, c4, c5, c6, c7, c8⟩ := a_okC_spec hI1 hz
      have hstk : (m0, pc, ls, as.reverse ++ r).2.2.2.map (a_tv E) = (as.map (a_tv E)).reverse ++ r.map (a_tv E) := by
        simp
      rw [hstk]
      refine a_callW (va_runS (n := o.2.2.2.1) (As := as.map (a_tv E)) (rest := r.map (a_tv E)) ⟨hx, hb, hml, hown, hts⟩ hMet (va_cwS _ hts (a_good_LW (fun w hw => ?_)) rfl rfl rfl ⟨c6.1, c6.2, c7⟩ ⟨?_, ?_⟩) ⟨hblind _, fun U hU hW => ⟨rfl, hpre U hU hW⟩⟩ rfl (by rw [List.length_map]; exact hln) hL.1 rfl (lv_room h8) hdec hroomf) hS hnext
      · simp only [va_wsS, List.mem_append, List.mem_cons, List.not_mem_nil, or_false] at hw
        rcases hw with (rfl | rfl | rfl) | hw
        · exact a_lnk_in hI2
        · exact a_lnk_in hI3
        · exact c5
        · exact a_wsz_good c4 w hw
      · show a_rk o.2.2.1 + 1 ≤ a_rk m0.1
        omega
      · show 8 + (mz.2.2.1 + 11) + 40 * a_rk o.2.2.1 ≤ 40 * a_rk m0.1
        omega
end CALLS
