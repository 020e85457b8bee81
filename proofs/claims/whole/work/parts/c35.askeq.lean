section AQ
variable {P : Nat → Nat → Nat} {R : Nat → Nat → Option (Nat → Nat)} {ty : Nat → Nat} {k c d : Nat}
theorem pe3 (z : P 0 c = 3) : pE P R ty (k + 1) c d = some (fun _ => 0) := by unfold pE; rw [if_pos z]
theorem pe308 (z : P 0 c = 308) : pE P R ty (k + 1) c d = none := by unfold pE; rw [if_neg (by omega), if_pos z]
theorem pe2 (z : P 0 c = 2) : pE P R ty (k + 1) c d = some (fun n => if n = P 1 c then d else 0) := by unfold pE; rw [if_neg (by omega), if_neg (by omega), if_pos z]
theorem pe5 (z : P 0 c = 5) : pE P R ty (k + 1) c d = (match R (P 1 c) d with
      | none => none
      | some r => ag ty (pE P R ty k) (ar P c) r (P 3 c) 0 (some (fun _ => 0))) := by
  rw [pE, if_neg (by omega), if_neg (by omega), if_neg (by omega), if_pos z]
  cases R (P 1 c) d <;> rfl
theorem pe6 (z : P 0 c = 6) : pE P R ty (k + 1) c d = jn ty (if af (P 5 c) d = 0 then some (fun _ => 0) else pE P R ty k (P 1 c) (af (P 5 c) d)) (if as (P 5 c) d = 0 then some (fun _ => 0) else pE P R ty k (P 2 c) (as (P 5 c) d)) := by rw [pE, if_neg (by omega), if_neg (by omega), if_neg (by omega), if_neg (by omega), if_pos z]
theorem pe301 (z : P 0 c = 301) : pE P R ty (k + 1) c d = jn ty (pE P R ty k (P 1 c) 1) (eo ty (pE P R ty k (P 2 c) d) (pE P R ty k (P 3 c) d)) := by rw [pE, if_neg (by omega), if_neg (by omega), if_neg (by omega), if_neg (by omega), if_neg (by omega), if_pos z]
theorem pe304 (z : P 0 c = 304) : pE P R ty (k + 1) c d = lt1 ty (pE P R ty k (P 1 c)) (fun x => x (P 3 c)) (pE P R ty k (P 2 c) d) := by rw [pE, if_neg (by omega), if_neg (by omega), if_neg (by omega), if_neg (by omega), if_neg (by omega), if_neg (by omega), if_pos z]
theorem pe306 (z : P 0 c = 306) : pE P R ty (k + 1) c d = lt1 ty (pE P R ty k (P 1 c)) (fun x => pd (P 5 (P 1 c)) (x (P 3 c)) (x (P 3 c + 1))) (pE P R ty k (P 2 c) d) := by rw [pE, if_neg (by omega), if_neg (by omega), if_neg (by omega), if_neg (by omega), if_neg (by omega), if_neg (by omega), if_neg (by omega), if_pos z]
theorem pes (z : sgK (P 0 c)) : pE P R ty (k + 1) c d = jn ty (pE P R ty k (P 1 c) 1) (pE P R ty k (P 2 c) 1) := by
  unfold sgK at z
  rw [pE, if_neg (by omega), if_neg (by omega), if_neg (by omega), if_neg (by omega), if_neg (by omega), if_neg (by omega), if_neg (by omega), if_neg (by omega)]
end AQ
