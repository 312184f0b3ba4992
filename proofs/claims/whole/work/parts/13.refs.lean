/-! references that may be null: loads, stores, copies -/
section PWRQ
variable {G : fw_G} {y : fw_M} {Q : fw_Q} {d kc ks : Nat} {h : fw_H} {pc nx a : Nat} {v : Int32} {L : List (Nat × Value)} {st : List Value} {tb : List fw_R}
theorem pw_aloadq {i : Instr} {r : Option Nat} (hT : fw_tok y tb) (hr : fw_at tb pc = some (i, nx, a, v)) (hi : (match i with | .aload _ => true | .aload_n _ => true | _ => false) = true) (hl : fw_lk L a = some (va_rf r)) (k : PW G y Q d kc ks h nx L (va_rf r :: st)) : PW G y Q d kc ks h pc L st := by
  have hd := fw_row hT hr
  cases i with
  | aload j => cases r with
    | none => exact pw_aload hd (by unfold fw_lda; rw [hl]; rfl) k
    | some b => exact pw_aload hd (by unfold fw_lda; rw [hl]; rfl) k
  | aload_n j => cases r with
    | none => exact pw_aload_n hd (by unfold fw_lda; rw [hl]; rfl) k
    | some b => exact pw_aload_n hd (by unfold fw_lda; rw [hl]; rfl) k
  | _ => cases hi
theorem pw_astoreq {i : Instr} {r : Option Nat} (hT : fw_tok y tb) (hr : fw_at tb pc = some (i, nx, a, v)) (hi : (match i with | .astore _ => true | .astore_n _ => true | _ => false) = true) (ho : fw_ok1 L a = true) (k : PW G y Q d kc ks h nx ((a, va_rf r) :: L) st) : PW G y Q d kc ks h pc L (va_rf r :: st) := by
  have hd := fw_row hT hr
  cases i with
  | astore j => cases r with
    | none => exact pw_astore hd (by show (bif fw_ok1 L a then _ else _) = _; rw [ho]; rfl) k
    | some b => exact pw_astore hd (by show (bif fw_ok1 L a then _ else _) = _; rw [ho]; rfl) k
  | astore_n j => cases r with
    | none => exact pw_astore_n hd (by show (bif fw_ok1 L a then _ else _) = _; rw [ho]; rfl) k
    | some b => exact pw_astore_n hd (by show (bif fw_ok1 L a then _ else _) = _; rw [ho]; rfl) k
  | _ => cases hi
theorem pw_dupq {r : Option Nat} (hT : fw_tok y tb) (hr : fw_at tb pc = some (.dup, nx, a, v)) (k : PW G y Q d kc ks h nx L (va_rf r :: va_rf r :: st)) : PW G y Q d kc ks h pc L (va_rf r :: st) := by
  cases r with
  | none => exact pw_go hT hr rfl k
  | some b => exact pw_go hT hr rfl k
theorem pw_aretp {r : Option Nat} {rt : FieldType} (hT : fw_tok y tb) (hr : fw_at tb pc = some (.areturn, nx, a, v)) (hy : y.2.2.2.1 = some rt) (hrt : (∃ n, rt = .object n) ∨ ∃ t, rt = .array t) : PW G y (fw_qpQ r h) d kc ks h pc L [va_rf r] :=
  pw_aret hT hr hy hrt ⟨r, rfl, rfl, rfl⟩
end PWRQ
