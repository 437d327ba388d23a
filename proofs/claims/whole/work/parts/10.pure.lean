/-! THE ENGINE over the machine: instructions that leave the heap alone -/
/-- from every real state that holds the abstract one the machine comes to Q -/
def a_J (l : Launch) (E : aE) (al : Bool) (m0 : aM) (p : Program) (e : Env) (s : State) (m : MethodId) (args : Array Value) (below : List Frame) (meth : Method) (c : Code) (mc ms : Nat) (Q : State → Prop) (k0 : aK) (F : aF) (k : aK) (t : aS) : Prop :=
  ∀ (H : Heap) (locs : List Loc) (lr : Array Slot), a_Hd E al k t H → va_S (a_A E) s.heap H locs → lv_has lr m0.2.2.1 (a_lv E F.2.2.1) → W p l e (a_rm m0.1 mc ms) s m args below meth c H locs (k.length - k0.length) (a_nsz k - a_nsz k0) Q (F0 m F.2.1 lr (F.2.2.2.map (a_tv E)))
/-- instructions that leave the heap alone -/
def a_pure (i : Instr) : Bool := match i with
  | .iconst _ | .bipush _ | .sipush _ | .lconst _ | .ldc _ | .ldc_w _ | .ldc2_w _ | .iload_n _ | .iload _ | .lload_n _ | .lload _ | .aload_n _ | .aload _ | .istore_n _ | .istore _ | .lstore_n _ | .lstore _ | .astore_n _ | .astore _ | .iinc _ _ => true
  | .iadd | .isub | .imul | .iand | .ior | .ixor | .ishl | .ishr | .iushr | .idiv | .irem | .ineg | .ladd | .lsub | .lmul | .land | .lor | .ldiv | .lrem | .lneg | .lshl | .lshr | .lushr | .lcmp | .i2l | .l2i | .i2b | .i2c | .dup | .pop | .dup2 => true
  | .goto _ | .ifCond _ _ | .if_icmp _ _ | .if_acmp _ _ | .ifnull _ | .ifnonnull _ | .tableswitch _ _ _ _ => true
  | _ => false
theorem a_isA_or {E : aE} {v : aV} (h : a_isA v = true) : a_tv E v = .null ∨ ∃ x, a_tv E v = .ref x := by
  rcases v with v | t
  · cases v <;> simp_all [a_isA, a_tv]
  · cases t
    · exact Or.inl rfl
    · exact Or.inr ⟨_, rfl⟩
theorem a_tgt_eq {pc : Nat} {off : Int} (h : decide (0 ≤ (pc : Int) + off) = true) : (pc : Int) + off = (a_tgt pc off : Int) := by
  have h2 : 0 ≤ (pc : Int) + off := by simpa using h
  unfold a_tgt
  omega
theorem a_ite {α : Type} {x : Prop} [Decidable x] {P : α → Prop} {a b : α} (h : P (if x then a else b)) : (x → P a) ∧ (¬ x → P b) := by
  by_cases hx : x
  · rw [if_pos hx] at h
    exact ⟨fun _ => h, fun q => absurd hx q⟩
  · rw [if_neg hx] at h
    exact ⟨fun q => absurd q hx, fun _ => h⟩
theorem i_nlt {x y : Int32} : ¬ x < y ↔ y ≤ x := Int32.not_lt
theorem a_swT_in {pc : Nat} {d : Nat} {x : Int32} : ∀ (offs : List Int) (lo : Int), -1000 ≤ lo → lo + offs.length ≤ 1001 → (a_swT pc lo d x offs = d ∧ (x.toInt < lo ∨ lo + offs.length - 1 < x.toInt)) ∨ ∃ (j : Nat) (off : Int), offs[j]? = some off ∧ x.toInt = lo + j ∧ a_swT pc lo d x offs = a_tgt pc off
  | [], lo, _, _ => Or.inl ⟨rfl, by simp; omega⟩
  | off :: r, lo, h1, h2 => by
    have hlo : (Int32.ofInt lo).toInt = lo := by
      simp at h2
      exact Int32.toInt_ofInt_of_le (by omega) (by omega)
    unfold a_swT
    by_cases e : x = Int32.ofInt lo
    · rw [if_pos e]
      exact Or.inr ⟨0, off, rfl, by rw [e, hlo]; simp, rfl⟩
    · rw [if_neg e]
      have hne : x.toInt ≠ lo := fun q => e (Int32.toInt_inj.mp (by rw [hlo]; exact q))
      rcases a_swT_in (pc := pc) (d := d) (x := x) r (lo + 1) (by omega) (by simp at h2; omega) with ⟨q1, q2⟩ | ⟨j, o, q1, q2, q3⟩
      · refine Or.inl ⟨q1, ?_⟩
        simp only [List.length_cons]
        omega
      · exact Or.inr ⟨j + 1, o, by simpa using q1, by omega, q3⟩
theorem a_tv_inr (E : aE) (t : Option Nat) : a_tv E (.inr t) = va_rf (t.map (fun i => E.2.1 (100000 + i))) := by cases t <;> rfl
theorem a_tk_inj {E : aE} {s : State} (h : a_Ev E s) {t u : Option Nat} (e : t.map (fun i => E.2.1 (100000 + i)) = u.map (fun i => E.2.1 (100000 + i))) : t = u := by
  cases t <;> cases u <;> simp at e ⊢
  exact h.2.1.2.1 _ _ e
section PURE
variable {l : Launch} {E : aE} {al : Bool} {p : Program} {e : Env} {s : State} {m : MethodId} {args : Array Value} {below : List Frame} {meth : Method} {c : Code} {mc ms : Nat} {Q : State → Prop} {k0 : aK}
set_option maxHeartbeats 4000000 in
theorem a_pure_ok {m0 m1 : aM} {pc pc1 : Nat} {ls ls1 : aL} {st st1 : List aV} {k k1 : aK} {t t1 : aS} {o : aO} (hC : a_Cx E m0 p s m args meth c) (hp : a_pure o.1 = true) (hdec : decode (a_by m0.1) pc = .ok (o.1, a_ln o.1 o.2.1)) (hI : a_okI m0.1 o = true) (hT : a_okT pc o = true) (hO : a_okL m0.2.2.1 o = true)
    (h : a_ex al o m0 pc ls st k t = some (true, .inl ((m1, pc1, ls1, st1), k1, t1))) (hn : ls.length = m0.2.2.1) (hJ : ls1.length = m0.2.2.1 → a_J l E al m0 p e s m args below meth c mc ms Q k0 (m1, pc1, ls1, st1) k1 t1) : a_J l E al m0 p e s m args below meth c mc ms Q k0 (m0, pc, ls, st) k t := by
  obtain ⟨hx, hb, hr, hml, hown, hts, hlk, hnm, hEv⟩ := hC
  have hcat := hEv.cat
  intro H locs lr hH hS hL
  have hlen : lr.size = m0.2.2.1 := hL.1
  have hlt : ∀ {i : Nat} {v : aV}, a_get ls i = some v → i < m0.2.2.1 := fun hv => hn ▸ a_get_lt hv
  cases hi : o.1 with
  | iconst n =>
    rw [hi] at hdec
    simp only [a_ex, hi] at h
    obtain ⟨-, rfl, rfl, rfl, rfl, rfl, rfl⟩ := a_nx_inj h
    exact lv_iconst hx hb hdec rfl (hJ hn H locs lr hH hS hL)
  | bipush n =>
    rw [hi] at hdec
    simp only [a_ex, hi] at h
    obtain ⟨-, rfl, rfl, rfl, rfl, rfl, rfl⟩ := a_nx_inj h
    exact lv_bipush hx hb hdec rfl (hJ hn H locs lr hH hS hL)
  | sipush n =>
    rw [hi] at hdec
    simp only [a_ex, hi] at h
    obtain ⟨-, rfl, rfl, rfl, rfl, rfl, rfl⟩ := a_nx_inj h
    exact lv_sipush hx hb hdec rfl (hJ hn H locs lr hH hS hL)
  | lconst n =>
    rw [hi] at hdec
    simp only [a_ex, hi] at h
    obtain ⟨-, rfl, rfl, rfl, rfl, rfl, rfl⟩ := a_nx_inj h
    exact lv_lconst hx hb hdec rfl (hJ hn H locs lr hH hS hL)
  | ldc n =>
    rw [hi] at hdec
    simp only [a_ex, hi] at h
    simp only [a_okI, hi] at hI
    obtain ⟨-, rfl, rfl, rfl, rfl, rfl, rfl⟩ := a_nx_inj h
    exact lv_ldc hx hb hown (hts _ (a_lnk_in hI)) hdec (hJ hn H locs lr hH hS hL)
  | ldc_w n =>
    rw [hi] at hdec
    simp only [a_ex, hi] at h
    simp only [a_okI, hi] at hI
    obtain ⟨-, rfl, rfl, rfl, rfl, rfl, rfl⟩ := a_nx_inj h
    exact lv_ldcw hx hb hown (hts _ (a_lnk_in hI)) hdec (hJ hn H locs lr hH hS hL)
  | ldc2_w n =>
    rw [hi] at hdec
    simp only [a_ex, hi] at h
    simp only [a_okI, hi] at hI
    obtain ⟨-, rfl, rfl, rfl, rfl, rfl, rfl⟩ := a_nx_inj h
    exact lv_ldc2 hx hb hown (hts _ (a_lnk_in hI)) hdec (hJ hn H locs lr hH hS hL)
  | iload_n n =>
    rw [hi] at hdec
    simp only [a_ex, hi] at h
    obtain ⟨v, hv, h⟩ := a_lI_some h
    obtain ⟨-, rfl, rfl, rfl, rfl, rfl, rfl⟩ := a_nx_inj h
    exact lv_iload_n hx hb hdec rfl (a_lv_at hL hv) (hJ hn H locs lr hH hS hL)
  | iload n =>
    rw [hi] at hdec
    simp only [a_ex, hi] at h
    obtain ⟨v, hv, h⟩ := a_lI_some h
    obtain ⟨-, rfl, rfl, rfl, rfl, rfl, rfl⟩ := a_nx_inj h
    exact lv_iload hx hb hdec (a_lv_at hL hv) (hJ hn H locs lr hH hS hL)
  | lload_n n =>
    rw [hi] at hdec
    simp only [a_ex, hi] at h
    obtain ⟨v, hv, h⟩ := a_lL_some h
    obtain ⟨-, rfl, rfl, rfl, rfl, rfl, rfl⟩ := a_nx_inj h
    exact lv_lload_n hx hb hdec rfl (a_lv_at hL hv) (hJ hn H locs lr hH hS hL)
  | lload n =>
    rw [hi] at hdec
    simp only [a_ex, hi] at h
    obtain ⟨v, hv, h⟩ := a_lL_some h
    obtain ⟨-, rfl, rfl, rfl, rfl, rfl, rfl⟩ := a_nx_inj h
    exact lv_lload hx hb hdec (a_lv_at hL hv) (hJ hn H locs lr hH hS hL)
  | aload_n n =>
    rw [hi] at hdec
    simp only [a_ex, hi] at h
    obtain ⟨v, hv, ha, h⟩ := a_lA_some h
    obtain ⟨-, rfl, rfl, rfl, rfl, rfl, rfl⟩ := a_nx_inj h
    have h1 := hJ hn H locs lr hH hS hL
    have h2 := a_lv_at hL hv
    simp only [List.map_cons] at h1
    rcases a_isA_or (E := E) ha with q | ⟨x, q⟩ <;> rw [q] at h1 h2
    · exact lv_aload_nN hx hb hdec rfl h2 h1
    · exact lv_aload_n hx hb hdec rfl h2 h1
  | aload n =>
    rw [hi] at hdec
    simp only [a_ex, hi] at h
    obtain ⟨v, hv, ha, h⟩ := a_lA_some h
    obtain ⟨-, rfl, rfl, rfl, rfl, rfl, rfl⟩ := a_nx_inj h
    have h1 := hJ hn H locs lr hH hS hL
    have h2 := a_lv_at hL hv
    simp only [List.map_cons] at h1
    rcases a_isA_or (E := E) ha with q | ⟨x, q⟩ <;> rw [q] at h1 h2
    · exact lv_aloadN hx hb hdec h2 h1
    · exact lv_aload hx hb hdec h2 h1
  | istore_n n =>
    rw [hi] at hdec
    simp only [a_ex, hi] at h
    simp only [a_okL, hi] at hO
    have hlt2 := Nat.blt_eq.mp hO
    obtain ⟨v, r, rfl, h_1⟩ := a_pI_some h
    obtain ⟨-, rfl, rfl, rfl, rfl, rfl, rfl⟩ := a_nx_inj h_1
    exact lv_istore_n hx hb hdec rfl hL hlt2 rfl (fun lr2 hL2 => hJ (by rw [a_put_len]; exact hn) H locs lr2 hH hS (a_lv_put hcat hL2))
  | istore n =>
    rw [hi] at hdec
    simp only [a_ex, hi] at h
    simp only [a_okL, hi] at hO
    have hlt2 := Nat.blt_eq.mp hO
    obtain ⟨v, r, rfl, h_1⟩ := a_pI_some h
    obtain ⟨-, rfl, rfl, rfl, rfl, rfl, rfl⟩ := a_nx_inj h_1
    exact lv_istore hx hb hdec hL hlt2 rfl (fun lr2 hL2 => hJ (by rw [a_put_len]; exact hn) H locs lr2 hH hS (a_lv_put hcat hL2))
  | lstore_n n =>
    rw [hi] at hdec
    simp only [a_ex, hi] at h
    simp only [a_okL, hi] at hO
    have hlt2 := Nat.blt_eq.mp hO
    obtain ⟨v, r, rfl, h_1⟩ := a_pL_some h
    obtain ⟨-, rfl, rfl, rfl, rfl, rfl, rfl⟩ := a_nx_inj h_1
    exact lv_lstore_n hx hb hdec rfl hL hlt2 rfl (fun lr2 hL2 => hJ (by rw [a_put2_len]; exact hn) H locs lr2 hH hS (a_lv_put2 hcat hL2))
  | lstore n =>
    rw [hi] at hdec
    simp only [a_ex, hi] at h
    simp only [a_okL, hi] at hO
    have hlt2 := Nat.blt_eq.mp hO
    obtain ⟨v, r, rfl, h_1⟩ := a_pL_some h
    obtain ⟨-, rfl, rfl, rfl, rfl, rfl, rfl⟩ := a_nx_inj h_1
    exact lv_lstore hx hb hdec hL hlt2 rfl (fun lr2 hL2 => hJ (by rw [a_put2_len]; exact hn) H locs lr2 hH hS (a_lv_put2 hcat hL2))
  | astore_n n =>
    rw [hi] at hdec
    simp only [a_ex, hi] at h
    simp only [a_okL, hi] at hO
    have hlt2 := Nat.blt_eq.mp hO
    obtain ⟨v, r, rfl, h_1⟩ := a_pV_some h
    split at h_1
    · rename_i ha
      obtain ⟨-, rfl, rfl, rfl, rfl, rfl, rfl⟩ := a_nx_inj h_1
      have h1 : ∀ lr2, lv_has lr2 m0.2.2.1 (((n : Nat), a_tv E v) :: (a_lv E ls).filter (fun q => !(q.1 == (n : Nat)) && !(q.1 + 1 == (n : Nat) && q.2.category == 2))) → _ := fun lr2 hL2 => hJ (by rw [a_put_len]; exact hn) H locs lr2 hH hS (a_lv_put hcat hL2)
      show W p l e (a_rm m0.1 mc ms) s m args below meth c H locs _ _ Q (F0 m pc lr (a_tv E v :: r.map (a_tv E)))
      rcases a_isA_or (E := E) ha with q | ⟨x, q⟩ <;> rw [q] at h1 ⊢
      · exact lv_astore_nN hx hb hdec rfl hL hlt2 rfl h1
      · exact lv_astore_n hx hb hdec rfl hL hlt2 rfl h1
    · cases h_1
  | astore n =>
    rw [hi] at hdec
    simp only [a_ex, hi] at h
    simp only [a_okL, hi] at hO
    have hlt2 := Nat.blt_eq.mp hO
    obtain ⟨v, r, rfl, h_1⟩ := a_pV_some h
    split at h_1
    · rename_i ha
      obtain ⟨-, rfl, rfl, rfl, rfl, rfl, rfl⟩ := a_nx_inj h_1
      have h1 : ∀ lr2, lv_has lr2 m0.2.2.1 (((n : Nat), a_tv E v) :: (a_lv E ls).filter (fun q => !(q.1 == (n : Nat)) && !(q.1 + 1 == (n : Nat) && q.2.category == 2))) → _ := fun lr2 hL2 => hJ (by rw [a_put_len]; exact hn) H locs lr2 hH hS (a_lv_put hcat hL2)
      show W p l e (a_rm m0.1 mc ms) s m args below meth c H locs _ _ Q (F0 m pc lr (a_tv E v :: r.map (a_tv E)))
      rcases a_isA_or (E := E) ha with q | ⟨x, q⟩ <;> rw [q] at h1 ⊢
      · exact lv_astoreN hx hb hdec hL hlt2 rfl h1
      · exact lv_astore hx hb hdec hL hlt2 rfl h1
    · cases h_1
  | iinc i n =>
    rw [hi] at hdec
    simp only [a_ex, hi] at h
    obtain ⟨v, hv, h⟩ := a_lI_some h
    obtain ⟨-, rfl, rfl, rfl, rfl, rfl, rfl⟩ := a_nx_inj h
    obtain ⟨q, hq⟩ := List.getElem?_of_mem (a_lv_mem.mpr ⟨_, hv, rfl⟩ : (i, Value.int v) ∈ a_lv E ls)
    exact lv_iinc hx hb hdec hL hq rfl (hlt hv) rfl (fun lr2 hL2 => hJ (by rw [a_put_len]; exact hn) H locs lr2 hH hS (a_lv_put (v := .inl (.int (v + Int32.ofInt n))) hcat hL2))
  | iadd =>
    rw [hi] at hdec
    simp only [a_ex, hi] at h
    simp only [a_op2] at h
    obtain ⟨v, r, rfl, h_1⟩ := a_pI_some h
    obtain ⟨w, r2, rfl, h_2⟩ := a_pI_some h_1
    obtain ⟨-, rfl, rfl, rfl, rfl, rfl, rfl⟩ := a_nx_inj h_2
    exact lv_iadd hx hb hdec (hJ hn H locs lr hH hS hL)
  | isub =>
    rw [hi] at hdec
    simp only [a_ex, hi] at h
    simp only [a_op2] at h
    obtain ⟨v, r, rfl, h_1⟩ := a_pI_some h
    obtain ⟨w, r2, rfl, h_2⟩ := a_pI_some h_1
    obtain ⟨-, rfl, rfl, rfl, rfl, rfl, rfl⟩ := a_nx_inj h_2
    exact lv_isub hx hb hdec (hJ hn H locs lr hH hS hL)
  | imul =>
    rw [hi] at hdec
    simp only [a_ex, hi] at h
    simp only [a_op2] at h
    obtain ⟨v, r, rfl, h_1⟩ := a_pI_some h
    obtain ⟨w, r2, rfl, h_2⟩ := a_pI_some h_1
    obtain ⟨-, rfl, rfl, rfl, rfl, rfl, rfl⟩ := a_nx_inj h_2
    exact lv_imul hx hb hdec (hJ hn H locs lr hH hS hL)
  | iand =>
    rw [hi] at hdec
    simp only [a_ex, hi] at h
    simp only [a_op2] at h
    obtain ⟨v, r, rfl, h_1⟩ := a_pI_some h
    obtain ⟨w, r2, rfl, h_2⟩ := a_pI_some h_1
    obtain ⟨-, rfl, rfl, rfl, rfl, rfl, rfl⟩ := a_nx_inj h_2
    exact lv_iand hx hb hdec (hJ hn H locs lr hH hS hL)
  | ior =>
    rw [hi] at hdec
    simp only [a_ex, hi] at h
    simp only [a_op2] at h
    obtain ⟨v, r, rfl, h_1⟩ := a_pI_some h
    obtain ⟨w, r2, rfl, h_2⟩ := a_pI_some h_1
    obtain ⟨-, rfl, rfl, rfl, rfl, rfl, rfl⟩ := a_nx_inj h_2
    exact lv_ior hx hb hdec (hJ hn H locs lr hH hS hL)
  | ixor =>
    rw [hi] at hdec
    simp only [a_ex, hi] at h
    simp only [a_op2] at h
    obtain ⟨v, r, rfl, h_1⟩ := a_pI_some h
    obtain ⟨w, r2, rfl, h_2⟩ := a_pI_some h_1
    obtain ⟨-, rfl, rfl, rfl, rfl, rfl, rfl⟩ := a_nx_inj h_2
    exact lv_ixor hx hb hdec (hJ hn H locs lr hH hS hL)
  | ishl =>
    rw [hi] at hdec
    simp only [a_ex, hi] at h
    simp only [a_op2] at h
    obtain ⟨v, r, rfl, h_1⟩ := a_pI_some h
    obtain ⟨w, r2, rfl, h_2⟩ := a_pI_some h_1
    obtain ⟨-, rfl, rfl, rfl, rfl, rfl, rfl⟩ := a_nx_inj h_2
    exact lv_ishl hx hb hdec (hJ hn H locs lr hH hS hL)
  | ishr =>
    rw [hi] at hdec
    simp only [a_ex, hi] at h
    simp only [a_op2] at h
    obtain ⟨v, r, rfl, h_1⟩ := a_pI_some h
    obtain ⟨w, r2, rfl, h_2⟩ := a_pI_some h_1
    obtain ⟨-, rfl, rfl, rfl, rfl, rfl, rfl⟩ := a_nx_inj h_2
    exact lv_ishr hx hb hdec (hJ hn H locs lr hH hS hL)
  | iushr =>
    rw [hi] at hdec
    simp only [a_ex, hi] at h
    simp only [a_op2] at h
    obtain ⟨v, r, rfl, h_1⟩ := a_pI_some h
    obtain ⟨w, r2, rfl, h_2⟩ := a_pI_some h_1
    obtain ⟨-, rfl, rfl, rfl, rfl, rfl, rfl⟩ := a_nx_inj h_2
    exact lv_iushr hx hb hdec rfl (hJ hn H locs lr hH hS hL)
  | ladd =>
    rw [hi] at hdec
    simp only [a_ex, hi] at h
    simp only [a_opL2] at h
    obtain ⟨v, r, rfl, h_1⟩ := a_pL_some h
    obtain ⟨w, r2, rfl, h_2⟩ := a_pL_some h_1
    obtain ⟨-, rfl, rfl, rfl, rfl, rfl, rfl⟩ := a_nx_inj h_2
    exact lv_ladd hx hb hdec (hJ hn H locs lr hH hS hL)
  | lsub =>
    rw [hi] at hdec
    simp only [a_ex, hi] at h
    simp only [a_opL2] at h
    obtain ⟨v, r, rfl, h_1⟩ := a_pL_some h
    obtain ⟨w, r2, rfl, h_2⟩ := a_pL_some h_1
    obtain ⟨-, rfl, rfl, rfl, rfl, rfl, rfl⟩ := a_nx_inj h_2
    exact lv_lsub hx hb hdec (hJ hn H locs lr hH hS hL)
  | lmul =>
    rw [hi] at hdec
    simp only [a_ex, hi] at h
    simp only [a_opL2] at h
    obtain ⟨v, r, rfl, h_1⟩ := a_pL_some h
    obtain ⟨w, r2, rfl, h_2⟩ := a_pL_some h_1
    obtain ⟨-, rfl, rfl, rfl, rfl, rfl, rfl⟩ := a_nx_inj h_2
    exact lv_lmul hx hb hdec (hJ hn H locs lr hH hS hL)
  | land =>
    rw [hi] at hdec
    simp only [a_ex, hi] at h
    simp only [a_opL2] at h
    obtain ⟨v, r, rfl, h_1⟩ := a_pL_some h
    obtain ⟨w, r2, rfl, h_2⟩ := a_pL_some h_1
    obtain ⟨-, rfl, rfl, rfl, rfl, rfl, rfl⟩ := a_nx_inj h_2
    exact lv_land hx hb hdec (hJ hn H locs lr hH hS hL)
  | lor =>
    rw [hi] at hdec
    simp only [a_ex, hi] at h
    simp only [a_opL2] at h
    obtain ⟨v, r, rfl, h_1⟩ := a_pL_some h
    obtain ⟨w, r2, rfl, h_2⟩ := a_pL_some h_1
    obtain ⟨-, rfl, rfl, rfl, rfl, rfl, rfl⟩ := a_nx_inj h_2
    exact lv_lor hx hb hdec (hJ hn H locs lr hH hS hL)
  | idiv =>
    rw [hi] at hdec
    simp only [a_ex, hi] at h
    obtain ⟨v, r, rfl, h_1⟩ := a_pI_some h
    obtain ⟨w, r2, rfl, h_2⟩ := a_pI_some h_1
    simp only [Option.some.injEq, Prod.mk.injEq, Sum.inl.injEq, Bool.not_eq_true', decide_eq_false_iff_not] at h_2
    obtain ⟨hz, ⟨rfl, rfl, rfl, rfl⟩, rfl, rfl⟩ := h_2
    exact lv_idiv hx hb hdec hz (hJ hn H locs lr hH hS hL)
  | irem =>
    rw [hi] at hdec
    simp only [a_ex, hi] at h
    obtain ⟨v, r, rfl, h_1⟩ := a_pI_some h
    obtain ⟨w, r2, rfl, h_2⟩ := a_pI_some h_1
    simp only [Option.some.injEq, Prod.mk.injEq, Sum.inl.injEq, Bool.not_eq_true', decide_eq_false_iff_not] at h_2
    obtain ⟨hz, ⟨rfl, rfl, rfl, rfl⟩, rfl, rfl⟩ := h_2
    exact lv_irem hx hb hdec hz (hJ hn H locs lr hH hS hL)
  | ldiv =>
    rw [hi] at hdec
    simp only [a_ex, hi] at h
    obtain ⟨v, r, rfl, h_1⟩ := a_pL_some h
    obtain ⟨w, r2, rfl, h_2⟩ := a_pL_some h_1
    simp only [Option.some.injEq, Prod.mk.injEq, Sum.inl.injEq, Bool.not_eq_true', decide_eq_false_iff_not] at h_2
    obtain ⟨hz, ⟨rfl, rfl, rfl, rfl⟩, rfl, rfl⟩ := h_2
    exact lv_ldiv hx hb hdec hz (hJ hn H locs lr hH hS hL)
  | lrem =>
    rw [hi] at hdec
    simp only [a_ex, hi] at h
    obtain ⟨v, r, rfl, h_1⟩ := a_pL_some h
    obtain ⟨w, r2, rfl, h_2⟩ := a_pL_some h_1
    simp only [Option.some.injEq, Prod.mk.injEq, Sum.inl.injEq, Bool.not_eq_true', decide_eq_false_iff_not] at h_2
    obtain ⟨hz, ⟨rfl, rfl, rfl, rfl⟩, rfl, rfl⟩ := h_2
    exact lv_lrem hx hb hdec hz (hJ hn H locs lr hH hS hL)
  | ineg =>
    rw [hi] at hdec
    simp only [a_ex, hi] at h
    obtain ⟨v, r, rfl, h_1⟩ := a_pI_some h
    obtain ⟨-, rfl, rfl, rfl, rfl, rfl, rfl⟩ := a_nx_inj h_1
    exact lv_ineg hx hb hdec (hJ hn H locs lr hH hS hL)
  | lneg =>
    rw [hi] at hdec
    simp only [a_ex, hi] at h
    obtain ⟨v, r, rfl, h_1⟩ := a_pL_some h
    obtain ⟨-, rfl, rfl, rfl, rfl, rfl, rfl⟩ := a_nx_inj h_1
    exact lv_lneg hx hb hdec (hJ hn H locs lr hH hS hL)
  | lshl =>
    rw [hi] at hdec
    simp only [a_ex, hi] at h
    obtain ⟨v, r, rfl, h_1⟩ := a_pI_some h
    obtain ⟨w, r2, rfl, h_2⟩ := a_pL_some h_1
    obtain ⟨-, rfl, rfl, rfl, rfl, rfl, rfl⟩ := a_nx_inj h_2
    exact lv_lshl hx hb hdec rfl (hJ hn H locs lr hH hS hL)
  | lshr =>
    rw [hi] at hdec
    simp only [a_ex, hi] at h
    obtain ⟨v, r, rfl, h_1⟩ := a_pI_some h
    obtain ⟨w, r2, rfl, h_2⟩ := a_pL_some h_1
    obtain ⟨-, rfl, rfl, rfl, rfl, rfl, rfl⟩ := a_nx_inj h_2
    exact lv_lshr hx hb hdec rfl (hJ hn H locs lr hH hS hL)
  | lushr =>
    rw [hi] at hdec
    simp only [a_ex, hi] at h
    obtain ⟨v, r, rfl, h_1⟩ := a_pI_some h
    obtain ⟨w, r2, rfl, h_2⟩ := a_pL_some h_1
    obtain ⟨-, rfl, rfl, rfl, rfl, rfl, rfl⟩ := a_nx_inj h_2
    exact lv_lushr hx hb hdec rfl (hJ hn H locs lr hH hS hL)
  | lcmp =>
    rw [hi] at hdec
    simp only [a_ex, hi] at h
    obtain ⟨v, r, rfl, h_1⟩ := a_pL_some h
    obtain ⟨w, r2, rfl, h_2⟩ := a_pL_some h_1
    obtain ⟨-, rfl, rfl, rfl, rfl, rfl, rfl⟩ := a_nx_inj h_2
    exact W.lcmp hx hb hdec (hJ hn H locs lr hH hS hL)
  | i2l =>
    rw [hi] at hdec
    simp only [a_ex, hi] at h
    obtain ⟨v, r, rfl, h_1⟩ := a_pI_some h
    obtain ⟨-, rfl, rfl, rfl, rfl, rfl, rfl⟩ := a_nx_inj h_1
    exact lv_i2l hx hb hdec rfl (hJ hn H locs lr hH hS hL)
  | l2i =>
    rw [hi] at hdec
    simp only [a_ex, hi] at h
    obtain ⟨v, r, rfl, h_1⟩ := a_pL_some h
    obtain ⟨-, rfl, rfl, rfl, rfl, rfl, rfl⟩ := a_nx_inj h_1
    exact lv_l2i hx hb hdec rfl (hJ hn H locs lr hH hS hL)
  | i2b =>
    rw [hi] at hdec
    simp only [a_ex, hi] at h
    obtain ⟨v, r, rfl, h_1⟩ := a_pI_some h
    obtain ⟨-, rfl, rfl, rfl, rfl, rfl, rfl⟩ := a_nx_inj h_1
    exact lv_i2b hx hb hdec rfl (hJ hn H locs lr hH hS hL)
  | i2c =>
    rw [hi] at hdec
    simp only [a_ex, hi] at h
    obtain ⟨v, r, rfl, h_1⟩ := a_pI_some h
    obtain ⟨-, rfl, rfl, rfl, rfl, rfl, rfl⟩ := a_nx_inj h_1
    exact lv_i2c hx hb hdec rfl (hJ hn H locs lr hH hS hL)
  | dup =>
    rw [hi] at hdec
    simp only [a_ex, hi] at h
    obtain ⟨v, r, rfl, h_1⟩ := a_pV_some h
    split at h_1
    · rename_i hc1
      have hc2 := Nat.eq_of_beq_eq_true hc1
      obtain ⟨-, rfl, rfl, rfl, rfl, rfl, rfl⟩ := a_nx_inj h_1
      exact lv_dup hx hb hdec (by rw [a_tv_cat hcat]; exact hc2) (hJ hn H locs lr hH hS hL)
    · cases h_1
  | pop =>
    rw [hi] at hdec
    simp only [a_ex, hi] at h
    obtain ⟨v, r, rfl, h_1⟩ := a_pV_some h
    split at h_1
    · rename_i hc1
      have hc2 := Nat.eq_of_beq_eq_true hc1
      obtain ⟨-, rfl, rfl, rfl, rfl, rfl, rfl⟩ := a_nx_inj h_1
      exact lv_pop hx hb hdec (by rw [a_tv_cat hcat]; exact hc2) (hJ hn H locs lr hH hS hL)
    · cases h_1
  | dup2 =>
    rw [hi] at hdec
    simp only [a_ex, hi] at h
    obtain ⟨v, r, rfl, h_1⟩ := a_pV_some h
    split at h_1
    · rename_i hc1
      have hc2 := Nat.eq_of_beq_eq_true hc1
      obtain ⟨-, rfl, rfl, rfl, rfl, rfl, rfl⟩ := a_nx_inj h_1
      exact lv_dup2_2 hx hb hdec (by rw [a_tv_cat hcat]; exact hc2) (hJ hn H locs lr hH hS hL)
    · obtain ⟨w, r2, rfl, h_2⟩ := a_pV_some h_1
      split at h_2
      · rename_i hc1
        simp only [Bool.and_eq_true, Nat.beq_eq] at hc1
        obtain ⟨-, rfl, rfl, rfl, rfl, rfl, rfl⟩ := a_nx_inj h_2
        exact lv_dup2_11 hx hb hdec (by rw [a_tv_cat hcat]; exact hc1.1) (by rw [a_tv_cat hcat]; exact hc1.2) (hJ hn H locs lr hH hS hL)
      · cases h_2
  | goto off =>
    rw [hi] at hdec
    simp only [a_ex, hi] at h
    simp only [a_okT, hi] at hT
    obtain ⟨-, rfl, rfl, rfl, rfl, rfl, rfl⟩ := a_nx_inj h
    exact lv_goto hx hb hdec (a_tgt_eq hT) (hJ hn H locs lr hH hS hL)
  | ifCond cd off =>
    rw [hi] at hdec
    simp only [a_ex, hi] at h
    simp only [a_okT, hi] at hT
    have htg := a_tgt_eq hT
    obtain ⟨v, r, rfl, h_1⟩ := a_pI_some h
    cases cd with
    | eq =>
      simp only at h_1
      obtain ⟨-, rfl, rfl, rfl, rfl, rfl, rfl⟩ := a_nx_inj h_1
      have h1 := a_ite (P := fun q => W p l e (a_rm m0.1 mc ms) s m args below meth c H locs (k.length - k0.length) (a_nsz k - a_nsz k0) Q (F0 m q lr (r.map (a_tv E)))) (hJ hn H locs lr hH hS hL)
      exact lv_if_eq hx hb hdec htg h1.1 h1.2
    | ne =>
      simp only at h_1
      obtain ⟨-, rfl, rfl, rfl, rfl, rfl, rfl⟩ := a_nx_inj h_1
      have h1 := a_ite (P := fun q => W p l e (a_rm m0.1 mc ms) s m args below meth c H locs (k.length - k0.length) (a_nsz k - a_nsz k0) Q (F0 m q lr (r.map (a_tv E)))) (hJ hn H locs lr hH hS hL)
      exact lv_if_ne hx hb hdec htg (fun q => h1.2 (q)) (fun q => h1.1 q)
    | lt =>
      simp only at h_1
      obtain ⟨-, rfl, rfl, rfl, rfl, rfl, rfl⟩ := a_nx_inj h_1
      have h1 := a_ite (P := fun q => W p l e (a_rm m0.1 mc ms) s m args below meth c H locs (k.length - k0.length) (a_nsz k - a_nsz k0) Q (F0 m q lr (r.map (a_tv E)))) (hJ hn H locs lr hH hS hL)
      exact lv_if_lt hx hb hdec htg h1.1 h1.2
    | ge =>
      simp only at h_1
      obtain ⟨-, rfl, rfl, rfl, rfl, rfl, rfl⟩ := a_nx_inj h_1
      have h1 := a_ite (P := fun q => W p l e (a_rm m0.1 mc ms) s m args below meth c H locs (k.length - k0.length) (a_nsz k - a_nsz k0) Q (F0 m q lr (r.map (a_tv E)))) (hJ hn H locs lr hH hS hL)
      exact lv_if_ge hx hb hdec htg (fun q => h1.2 (Int32.not_lt.mpr q)) (fun q => h1.1 (Int32.not_le.mp q))
    | gt =>
      simp only at h_1
      obtain ⟨-, rfl, rfl, rfl, rfl, rfl, rfl⟩ := a_nx_inj h_1
      have h1 := a_ite (P := fun q => W p l e (a_rm m0.1 mc ms) s m args below meth c H locs (k.length - k0.length) (a_nsz k - a_nsz k0) Q (F0 m q lr (r.map (a_tv E)))) (hJ hn H locs lr hH hS hL)
      exact lv_if_gt hx hb hdec htg h1.1 h1.2
    | le =>
      simp only at h_1
      obtain ⟨-, rfl, rfl, rfl, rfl, rfl, rfl⟩ := a_nx_inj h_1
      have h1 := a_ite (P := fun q => W p l e (a_rm m0.1 mc ms) s m args below meth c H locs (k.length - k0.length) (a_nsz k - a_nsz k0) Q (F0 m q lr (r.map (a_tv E)))) (hJ hn H locs lr hH hS hL)
      exact lv_if_le hx hb hdec htg (fun q => h1.2 (Int32.not_lt.mpr q)) (fun q => h1.1 (Int32.not_le.mp q))
  | if_icmp cd off =>
    rw [hi] at hdec
    simp only [a_ex, hi] at h
    simp only [a_okT, hi] at hT
    have htg := a_tgt_eq hT
    obtain ⟨v, r, rfl, h_1⟩ := a_pI_some h
    obtain ⟨w, r2, rfl, h_2⟩ := a_pI_some h_1
    cases cd with
    | eq =>
      simp only at h_2
      obtain ⟨-, rfl, rfl, rfl, rfl, rfl, rfl⟩ := a_nx_inj h_2
      have h1 := a_ite (P := fun q => W p l e (a_rm m0.1 mc ms) s m args below meth c H locs (k.length - k0.length) (a_nsz k - a_nsz k0) Q (F0 m q lr (r2.map (a_tv E)))) (hJ hn H locs lr hH hS hL)
      exact lv_icmp_eq hx hb hdec htg h1.1 h1.2
    | ne =>
      simp only at h_2
      obtain ⟨-, rfl, rfl, rfl, rfl, rfl, rfl⟩ := a_nx_inj h_2
      have h1 := a_ite (P := fun q => W p l e (a_rm m0.1 mc ms) s m args below meth c H locs (k.length - k0.length) (a_nsz k - a_nsz k0) Q (F0 m q lr (r2.map (a_tv E)))) (hJ hn H locs lr hH hS hL)
      exact lv_icmp_ne hx hb hdec htg (fun q => h1.2 (q)) (fun q => h1.1 q)
    | lt =>
      simp only at h_2
      obtain ⟨-, rfl, rfl, rfl, rfl, rfl, rfl⟩ := a_nx_inj h_2
      have h1 := a_ite (P := fun q => W p l e (a_rm m0.1 mc ms) s m args below meth c H locs (k.length - k0.length) (a_nsz k - a_nsz k0) Q (F0 m q lr (r2.map (a_tv E)))) (hJ hn H locs lr hH hS hL)
      exact lv_icmp_lt hx hb hdec htg h1.1 h1.2
    | ge =>
      simp only at h_2
      obtain ⟨-, rfl, rfl, rfl, rfl, rfl, rfl⟩ := a_nx_inj h_2
      have h1 := a_ite (P := fun q => W p l e (a_rm m0.1 mc ms) s m args below meth c H locs (k.length - k0.length) (a_nsz k - a_nsz k0) Q (F0 m q lr (r2.map (a_tv E)))) (hJ hn H locs lr hH hS hL)
      exact lv_icmp_ge hx hb hdec htg (fun q => h1.2 (Int32.not_lt.mpr q)) (fun q => h1.1 (Int32.not_le.mp q))
    | gt =>
      simp only at h_2
      obtain ⟨-, rfl, rfl, rfl, rfl, rfl, rfl⟩ := a_nx_inj h_2
      have h1 := a_ite (P := fun q => W p l e (a_rm m0.1 mc ms) s m args below meth c H locs (k.length - k0.length) (a_nsz k - a_nsz k0) Q (F0 m q lr (r2.map (a_tv E)))) (hJ hn H locs lr hH hS hL)
      exact lv_icmp_gt hx hb hdec htg h1.1 h1.2
    | le =>
      simp only at h_2
      obtain ⟨-, rfl, rfl, rfl, rfl, rfl, rfl⟩ := a_nx_inj h_2
      have h1 := a_ite (P := fun q => W p l e (a_rm m0.1 mc ms) s m args below meth c H locs (k.length - k0.length) (a_nsz k - a_nsz k0) Q (F0 m q lr (r2.map (a_tv E)))) (hJ hn H locs lr hH hS hL)
      exact lv_icmp_le hx hb hdec htg (fun q => h1.2 (Int32.not_lt.mpr q)) (fun q => h1.1 (Int32.not_le.mp q))
  | if_acmp cd off =>
    rw [hi] at hdec
    simp only [a_ex, hi] at h
    simp only [a_okT, hi] at hT
    have htg := a_tgt_eq hT
    obtain ⟨v, r, rfl, h_1⟩ := a_pT_some h
    obtain ⟨w, r2, rfl, h_2⟩ := a_pT_some h_1
    cases cd with
    | eq =>
      simp only at h_2
      obtain ⟨-, rfl, rfl, rfl, rfl, rfl, rfl⟩ := a_nx_inj h_2
      have h1 := a_ite (P := fun q => W p l e (a_rm m0.1 mc ms) s m args below meth c H locs (k.length - k0.length) (a_nsz k - a_nsz k0) Q (F0 m q lr (r2.map (a_tv E)))) (hJ hn H locs lr hH hS hL)
      simp only [List.map_cons, a_tv_inr]
      exact lv_acmp_eq hx hb hdec htg (fun q => h1.1 (a_tk_inj hEv q)) (fun q => h1.2 (fun q2 => q (by rw [q2])))
    | ne =>
      simp only at h_2
      obtain ⟨-, rfl, rfl, rfl, rfl, rfl, rfl⟩ := a_nx_inj h_2
      have h1 := a_ite (P := fun q => W p l e (a_rm m0.1 mc ms) s m args below meth c H locs (k.length - k0.length) (a_nsz k - a_nsz k0) Q (F0 m q lr (r2.map (a_tv E)))) (hJ hn H locs lr hH hS hL)
      simp only [List.map_cons, a_tv_inr]
      exact lv_acmp_ne hx hb hdec htg (fun q => h1.2 (fun q2 => q (by rw [q2]))) (fun q => h1.1 (a_tk_inj hEv q))
  | ifnull off =>
    rw [hi] at hdec
    simp only [a_ex, hi] at h
    simp only [a_okT, hi] at hT
    have htg := a_tgt_eq hT
    obtain ⟨v, r, rfl, h_1⟩ := a_pT_some h
    obtain ⟨-, rfl, rfl, rfl, rfl, rfl, rfl⟩ := a_nx_inj h_1
    have h1 := a_ite (P := fun q => W p l e (a_rm m0.1 mc ms) s m args below meth c H locs (k.length - k0.length) (a_nsz k - a_nsz k0) Q (F0 m q lr (r.map (a_tv E)))) (hJ hn H locs lr hH hS hL)
    cases v with
    | none => exact lv_ifnullN hx hb hdec htg (h1.1 rfl)
    | some i => exact lv_ifnull hx hb hdec (h1.2 (fun q => by cases q))
  | ifnonnull off =>
    rw [hi] at hdec
    simp only [a_ex, hi] at h
    simp only [a_okT, hi] at hT
    have htg := a_tgt_eq hT
    obtain ⟨v, r, rfl, h_1⟩ := a_pT_some h
    obtain ⟨-, rfl, rfl, rfl, rfl, rfl, rfl⟩ := a_nx_inj h_1
    have h1 := a_ite (P := fun q => W p l e (a_rm m0.1 mc ms) s m args below meth c H locs (k.length - k0.length) (a_nsz k - a_nsz k0) Q (F0 m q lr (r.map (a_tv E)))) (hJ hn H locs lr hH hS hL)
    cases v with
    | none => exact lv_ifnonnullN hx hb hdec (h1.1 rfl)
    | some i => exact lv_ifnonnull hx hb hdec htg (h1.2 (fun q => by cases q))
  | tableswitch d lo hi2 offs =>
    rw [hi] at hdec
    simp only [a_ex, hi] at h
    simp only [a_okT, hi, Bool.and_eq_true] at hT
    simp only [a_okI, hi, Bool.and_eq_true, decide_eq_true_eq] at hI
    obtain ⟨v, r, rfl, h_1⟩ := a_pI_some h
    obtain ⟨-, rfl, rfl, rfl, rfl, rfl, rfl⟩ := a_nx_inj h_1
    have h1 := hJ hn H locs lr hH hS hL
    rcases a_swT_in (pc := pc) (d := a_tgt pc d) (x := v) offs.toList lo hI.2.1 (by have := hI.2.2; have := hI.1; simp; omega) with ⟨q1, q2⟩ | ⟨j, off, q1, q2, q3⟩
    · simp only [q1] at h1
      refine lv_tableOut hx hb hdec ?_ (a_tgt_eq hT.1) h1
      have := hI.1
      simp at q2
      omega
    · simp only [q3] at h1
      have hjl : j < offs.size := by
        have := (List.getElem?_eq_some_iff.mp q1).1
        simpa using this
      have hof : offs[j]? = some off := by simpa using q1
      refine lv_tableIn hx hb hdec (by omega) (by have := hI.1; omega) (off := off) ?_ (a_tgt_eq ?_) h1
      · rw [show (v.toInt - lo).toNat = j by omega]; exact hof
      · exact List.all_eq_true.mp hT.2 off (List.mem_of_getElem? q1)
  | _ => rw [hi] at hp; cases hp
end PURE
