/-! THE ENGINE over the machine: what a step asks, what it gives -/
theorem a_pI_some {st : List aV} {f : Int32 → List aV → Option (Bool × aR)} {x : Bool × aR} (h : a_pI st f = some x) : ∃ v r, st = .inl (.int v) :: r ∧ f v r = some x := by
  unfold a_pI at h
  split at h
  · exact ⟨_, _, rfl, h⟩
  · cases h
theorem a_pL_some {st : List aV} {f : Int64 → List aV → Option (Bool × aR)} {x : Bool × aR} (h : a_pL st f = some x) : ∃ v r, st = .inl (.long v) :: r ∧ f v r = some x := by
  unfold a_pL at h
  split at h
  · exact ⟨_, _, rfl, h⟩
  · cases h
theorem a_pR_some {st : List aV} {f : Nat → List aV → Option (Bool × aR)} {x : Bool × aR} (h : a_pR st f = some x) : ∃ v r, st = .inl (.ref v) :: r ∧ f v r = some x := by
  unfold a_pR at h
  split at h
  · exact ⟨_, _, rfl, h⟩
  · cases h
theorem a_pT_some {st : List aV} {f : Option Nat → List aV → Option (Bool × aR)} {x : Bool × aR} (h : a_pT st f = some x) : ∃ v r, st = .inr v :: r ∧ f v r = some x := by
  unfold a_pT at h
  split at h
  · exact ⟨_, _, rfl, h⟩
  · cases h
theorem a_pV_some {st : List aV} {f : aV → List aV → Option (Bool × aR)} {x : Bool × aR} (h : a_pV st f = some x) : ∃ v r, st = v :: r ∧ f v r = some x := by
  unfold a_pV at h
  split at h
  · exact ⟨_, _, rfl, h⟩
  · cases h
theorem a_lI_some {ls : aL} {i : Nat} {f : Int32 → Option (Bool × aR)} {x : Bool × aR} (h : a_lI ls i f = some x) : ∃ v, a_get ls i = some (.inl (.int v)) ∧ f v = some x := by
  unfold a_lI at h
  split at h
  · exact ⟨_, by assumption, h⟩
  · cases h
theorem a_lL_some {ls : aL} {i : Nat} {f : Int64 → Option (Bool × aR)} {x : Bool × aR} (h : a_lL ls i f = some x) : ∃ v, a_get ls i = some (.inl (.long v)) ∧ f v = some x := by
  unfold a_lL at h
  split at h
  · exact ⟨_, by assumption, h⟩
  · cases h
theorem a_lA_some {ls : aL} {i : Nat} {f : aV → Option (Bool × aR)} {x : Bool × aR} (h : a_lA ls i f = some x) : ∃ v, a_get ls i = some v ∧ a_isA v = true ∧ f v = some x := by
  unfold a_lA at h
  split at h
  · split at h
    · exact ⟨_, by assumption, by assumption, h⟩
    · cases h
  · cases h
theorem a_nx_inj {m m2 : aM} {pc pc2 : Nat} {ls ls2 : aL} {st st2 : List aV} {k k2 : aK} {s s2 : aS} {g : Bool} (h : a_nx m pc ls st k s = some (g, .inl ((m2, pc2, ls2, st2), k2, s2))) : g = true ∧ m = m2 ∧ pc = pc2 ∧ ls = ls2 ∧ st = st2 ∧ k = k2 ∧ s = s2 := by
  simp only [a_nx, Option.some.injEq, Prod.mk.injEq, Sum.inl.injEq] at h
  obtain ⟨h1, ⟨h2, h3, h4, h5⟩, h6, h7⟩ := h
  exact ⟨h1.symm, h2, h3, h4, h5, h6, h7⟩
theorem a_find_mem : ∀ {c : List (Nat × aO)} {pc : Nat} {o : aO}, a_find c pc = some o → (pc, o) ∈ c
  | [], pc, o, h => by simp [a_find] at h
  | q :: r, pc, o, h => by
    simp only [a_find] at h
    split at h
    · rename_i hb
      have e : q.1 = pc := Nat.eq_of_beq_eq_true hb
      have e2 : q.2 = o := by simpa using h
      subst e; subst e2
      exact List.mem_cons_self
    · exact List.mem_cons_of_mem _ (a_find_mem h)
/-- how long an instruction is -/
def a_ln (i : Instr) (n : Nat) : Nat := match i with
  | .bipush _ => 2
  | .sipush _ => 3
  | .ldc _ => 2
  | .ldc_w _ => 3
  | .ldc2_w _ => 3
  | .iload _ => 2
  | .lload _ => 2
  | .aload _ => 2
  | .istore _ => 2
  | .lstore _ => 2
  | .astore _ => 2
  | .iinc _ _ => 3
  | .goto _ => 3
  | .ifCond _ _ => 3
  | .if_icmp _ _ => 3
  | .if_acmp _ _ => 3
  | .ifnull _ => 3
  | .ifnonnull _ => 3
  | .tableswitch _ _ _ _ => n % 256
  | .getfield _ => 3
  | .putfield _ => 3
  | .getstatic _ => 3
  | .new _ => 3
  | .newarray _ => 2
  | .anewarray _ => 3
  | .multianewarray _ _ => 4
  | .invokevirtual _ => 3
  | .invokespecial _ => 3
  | .invokestatic _ => 3
  | _ => 1
def a_nm (y : Nat) : MethodName := m_nm.getD y yX6_has
def a_by (y : Nat) : ByteArray := m_by.getD y ⟨#[]⟩
def a_rt (y : Nat) : Option FieldType := m_rt.getD y none
def a_rk (y : Nat) : Nat := m_rk.getD y 0
def a_rm (y mc ms : Nat) : Room := { frames := a_rk y, cells := mc, slots := ms, locals := 40 * a_rk y }
/-- a word of the tables, by its place -/
def a_lnk (i : Nat) (w : Cond) : Bool := decide (lw_tbl[i]? = some w) && goodWord w
theorem a_lnk_in {i : Nat} {w : Cond} (h : a_lnk i w = true) : w ∈ a_LW := by
  simp only [a_lnk, Bool.and_eq_true, decide_eq_true_eq] at h
  exact a_LW_mem h.1 h.2
/-- constant objects' fields by name -/
def c_fn (ci j : Nat) : String × String × String := match Nat.beq ci 60 with
  | true => (match j with
    | 0 => (a_TOK, "rank", "I")
    | 1 => (a_TOK, "letters", "Ljava/lang/String;")
    | _ => ("java/lang/Enum", "ordinal", "I"))
  | false => (match j with
    | 0 => (a_STR, "value", "[B")
    | _ => (a_STR, "coder", "B"))
def a_sn (o : aO) : String × String × String := match o.2.2.1 with
  | 0 => (a_TOK, c_tn.getD o.2.2.2.1 "", "LWindowLoans$Token;")
  | 1 => (match Nat.beq o.2.2.2.1 2000 with
    | true => (a_TOK, "ALL", "[LWindowLoans$Token;")
    | false => (match Nat.beq o.2.2.2.1 2001 with
      | true => ("WindowLoans$Planner", "BLOTS", "[I")
      | false => (match Nat.beq o.2.2.2.1 2002 with
        | true => ("WindowLoans$Planner", "BEGINS", "[I")
        | false => ("WindowLoans$1", "$SwitchMap$WindowLoans$Token", "[I"))))
  | 2 => (a_STR, "COMPACT_STRINGS", "Z")
  | _ => ("jdk/internal/util/Preconditions", "SIOOBE_FORMATTER", "Ljava/util/function/BiFunction;")
def a_sok (o : aO) : Bool := match o.2.2.1 with
  | 0 => Nat.blt o.2.2.2.1 39
  | 1 => Nat.beq o.2.2.2.1 2000 || (Nat.beq o.2.2.2.1 2001 || (Nat.beq o.2.2.2.1 2002 || Nat.beq o.2.2.2.1 2003))
  | 2 => Nat.beq o.2.2.2.1 1
  | 3 => true
  | _ => false
def a_plc (z : Nat) : Nat × Nat × Nat × Nat × Nat := m_pl.getD z (0, 0, 0, 0, 0)
/-- a call from y to z goes down, and z's words stand -/
def a_okC (y z n : Nat) : Bool := Nat.blt (a_rk z) (a_rk y) && (match a_nth pgL z with
  | some mz => Nat.beq mz.1 z && (Nat.ble (mz.2.2.1 + 19) 40 && (a_lnk (a_plc z).1 (.code (a_nm z) (a_by z) mz.2.2.1 (a_rt z)) && (a_lnk (a_plc z).2.2.2.1 (.initialized (a_nm z).cls) && (decide ((a_nm z).cls ≠ "java/lang/invoke/MethodHandle" ∧ (a_nm z).cls ≠ "java/lang/invoke/VarHandle") && (decide ((parseMethodDescriptor (a_nm z).desc).map (fun d => d.parameters.length) = some n) && plainName (a_nm z).cls)))))
  | none => false)
def a_clsName (c : Nat) : String := match vwCl[c]? with
  | some r => r.1
  | none => (match Nat.beq c 60 with
    | true => a_TOK
    | false => a_STR)
def c_mn (n : Nat) : MethodName := match n with
  | 0 => Lib.Math.max.name
  | 1 => Lib.Math.min.name
  | 2 => Lib.Math.abs.name
  | 3 => Lib.MathLoose.max_long.x
  | _ => Lib.MathLoose.min_long.x
def a_okI (y : Nat) (o : aO) : Bool := match o.1 with
  | .getfield idx => (match vwCl[o.2.2.1]? with
    | some r => Nat.blt o.2.2.2.1 r.2.2 && a_lnk o.2.2.2.2 (.fieldLink (a_nm y).cls idx (r.2.1 o.2.2.2.1).1 (r.2.1 o.2.2.2.1).2.1 (r.2.1 o.2.2.2.1).2.2.1)
    | none => a_lnk o.2.2.2.2 (.fieldLink (a_nm y).cls idx (c_fn o.2.2.1 o.2.2.2.1).1 (c_fn o.2.2.1 o.2.2.2.1).2.1 (c_fn o.2.2.1 o.2.2.2.1).2.2))
  | .putfield idx => (match vwCl[o.2.2.1]? with
    | some r => Nat.blt o.2.2.2.1 r.2.2 && (a_lnk o.2.2.2.2 (.fieldLink (a_nm y).cls idx (r.2.1 o.2.2.2.1).1 (r.2.1 o.2.2.2.1).2.1 (r.2.1 o.2.2.2.1).2.2.1) && (!(Nat.beq (a_ty o.2.2.1 o.2.2.2.1) 2) || decide ((r.2.1 o.2.2.2.1).1 = (a_nm y).cls ∧ (a_nm y).name = "<init>")))
    | none => false)
  | .getstatic idx => a_sok o && a_lnk o.2.2.2.2 (.fieldLink (a_nm y).cls idx (a_sn o).1 (a_sn o).2.1 (a_sn o).2.2)
  | .ldc idx => a_lnk o.2.2.2.2 (.constant (a_nm y).cls idx (Int32.ofNat o.2.2.1))
  | .ldc_w idx => a_lnk o.2.2.2.2 (.constant (a_nm y).cls idx (Int32.ofNat o.2.2.1))
  | .ldc2_w idx => a_lnk o.2.2.2.2 (.constantLong (a_nm y).cls idx (Int64.ofNat o.2.2.1))
  | .new idx => (match vwCl[o.2.2.1]? with
    | some r => a_lnk o.2.2.2.2 (.classLink (a_nm y).cls idx r.1)
    | none => false)
  | .newarray t => a_ge (a_atag t) 100
  | .anewarray idx => a_lnk o.2.2.2.2 (.classLink (a_nm y).cls idx a_TOK)
  | .multianewarray idx n => Nat.beq n 2 && a_lnk o.2.2.2.2 (.classLink (a_nm y).cls idx "[[I")
  | .invokevirtual idx => (match Nat.beq o.2.2.1 9002 with
    | true => Nat.beq o.2.2.2.1 0 && a_lnk o.2.2.2.2 (.methodLink (a_nm y).cls idx ⟨a_TOK, "ordinal", "()I"⟩)
    | false => Nat.beq o.2.2.1 9999 || (a_okC y o.2.2.1 o.2.2.2.1 && (a_lnk o.2.2.2.2 (.methodLink (a_nm y).cls idx (a_nm o.2.2.1)) && (a_lnk (a_plc o.2.2.1).2.1 (.instanceMethod (a_nm o.2.2.1)) && (a_lnk (a_plc o.2.2.1).2.2.1 (.selects (a_nm o.2.2.1).cls (a_nm o.2.2.1) (a_nm o.2.2.1)) && decide (a_clsName (m_ci.getD o.2.2.1 0) = (a_nm o.2.2.1).cls))))))
  | .invokespecial idx => (match Nat.beq o.2.2.1 9000 with
    | true => Nat.beq o.2.2.2.1 0 && a_lnk o.2.2.2.2 (.methodLink (a_nm y).cls idx Lib.objectInit)
    | false => Nat.beq o.2.2.1 9999 || (a_okC y o.2.2.1 o.2.2.2.1 && (decide ((a_nm o.2.2.1).name = "<init>" ∧ a_rt o.2.2.1 = none) && (a_lnk (a_plc o.2.2.1).2.1 (.instanceMethod (a_nm o.2.2.1)) && (a_lnk o.2.2.2.2 (.methodLink (a_nm y).cls idx (a_nm o.2.2.1)) || (decide (Cond.methodLinkNest (a_nm y).cls idx (a_nm o.2.2.1) "WindowLoans" = a_n1) || decide (Cond.methodLinkNest (a_nm y).cls idx (a_nm o.2.2.1) "WindowLoans" = a_n2)))))))
  | .invokestatic idx => (match Nat.beq o.2.2.1 9001 with
    | true => a_lnk o.2.2.2.2 (.methodLink (a_nm y).cls idx arraycopyName)
    | false => (match a_ge o.2.2.1 9010 && Nat.blt o.2.2.1 9999 with
      | true => Nat.blt o.2.2.1 9015 && a_lnk o.2.2.2.2 (.methodLink (a_nm y).cls idx (c_mn (o.2.2.1 - 9010)))
      | false => Nat.beq o.2.2.1 9999 || (a_okC y o.2.2.1 o.2.2.2.1 && (a_lnk o.2.2.2.2 (.methodLink (a_nm y).cls idx (a_nm o.2.2.1)) && a_lnk (a_plc o.2.2.1).2.1 (.static (a_nm o.2.2.1))))))
  | .tableswitch _ lo hi offs => decide (hi = lo + (offs.size : Int) - 1) && (decide (-1000 ≤ lo) && decide (hi ≤ 1000))
  | _ => true
/-- a jump's target is none below 0 -/
def a_okT (pc : Nat) (o : aO) : Bool := match o.1 with
  | .goto off => decide (0 ≤ (pc : Int) + off)
  | .ifCond _ off => decide (0 ≤ (pc : Int) + off)
  | .if_icmp _ off => decide (0 ≤ (pc : Int) + off)
  | .if_acmp _ off => decide (0 ≤ (pc : Int) + off)
  | .ifnull off => decide (0 ≤ (pc : Int) + off)
  | .ifnonnull off => decide (0 ≤ (pc : Int) + off)
  | .tableswitch d _ _ offs => decide (0 ≤ (pc : Int) + d) && offs.toList.all (fun off => decide (0 ≤ (pc : Int) + off))
  | _ => true
/-- a local's number is in range -/
def a_okL (nL : Nat) (o : aO) : Bool := match o.1 with
  | .istore n => Nat.blt n nL
  | .istore_n n => Nat.blt n nL
  | .astore n => Nat.blt n nL
  | .astore_n n => Nat.blt n nL
  | .lstore n => Nat.blt (n + 1) nL
  | .lstore_n n => Nat.blt ((n : Nat) + 1) nL
  | _ => true
def a_kdok (kd : Nat) (rt : Option FieldType) : Bool := match kd with
  | 0 => decide (rt = none)
  | 1 => decide (rt = some .int)
  | 2 => decide (rt = some .long)
  | 3 => decide (rt = some (.object a_TOK))
  | 4 => decide (rt = some .boolean)
  | 5 => decide (rt = some .char)
  | 6 => decide (rt = some .byte)
  | _ => false
/-- the check of a method: every instruction is there, its words stand -/
def a_okM (m : aM) : Bool := plainName (a_nm m.1).cls && (a_kdok m.2.1 (a_rt m.1) && (Nat.ble 2 (a_rk m.1) && m.2.2.2.all (fun q => decide (decode (a_by m.1) q.1 = .ok (q.2.1, a_ln q.2.1 q.2.2.1)) && (a_okI m.1 q.2 && (a_okT q.1 q.2 && a_okL m.2.2.1 q.2)))))
/-- how a method ends: its answer, the heap that it leaves, nothing below the cells has changed -/
def a_Q (E : aE) (al : Bool) (r : Option aV) (k : aK) (s : aS) : Array Value → State → Outcome → State → Prop := fun _ st oc t => oc = .returned (r.map (a_tv E)) ∧ a_Hd E al k s t.heap ∧ va_F (a_A E) st t
/-- what holds all through a method -/
def a_Cx (E : aE) (m0 : aM) (p : Program) (s : State) (m : MethodId) (args : Array Value) (meth : Method) (c : Code) : Prop :=
  p.tables.exec = Jvm.exec ∧ c.code = a_by m0.1 ∧ meth.sig.returnType = a_rt m0.1 ∧ c.maxLocals = m0.2.2.1 ∧ s.vm.findClass (a_nm m0.1).cls = some m.cls ∧ (∀ w ∈ a_LW, w.before args s = true) ∧ meth.locks = false ∧ meth.name = (a_nm m0.1).name ∧ a_Ev E s
