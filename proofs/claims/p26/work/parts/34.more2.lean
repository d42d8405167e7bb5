theorem zM_congr {f g : Int → Int} {a b : Int} (h : ∀ k, a ≤ k → k < b → f k = g k) : zM f a b = zM g a b := by
  have p := zM_spec g a b
  refine zM_un p.1 (fun k q1 q2 => by rw [h k q1 q2]; exact p.2.1 k q1 q2) ?_
  rcases p.2.2 with v | ⟨k, k1, k2, k3⟩
  · exact Or.inl v
  · exact Or.inr ⟨k, k1, k2, by rw [h k k1 k2]; exact k3⟩
theorem zKn_congr {w o : Int → Int} {t : Int} (h : ∀ k, 0 ≤ k → k < t → w k = o k) : zKn w t = zKn o t := by
  refine zM_congr fun q q1 q2 => ?_
  show zFF (fun k => w (t - 1 - k) = w (q - 1 - k)) (min t q) = zFF (fun k => o (t - 1 - k) = o (q - 1 - k)) (min t q)
  exact zFF_congr fun k a b => by rw [h (t - 1 - k) (by omega) (by omega), h (q - 1 - k) (by omega) (by omega)]
theorem zUn_more {w : Int → Int} {n x : Int} (hn : 0 ≤ n) : zUn (zApp w n x) (n + 1) - zUn w n = zUf (zApp w n x) (n + 1) := by
  have e : zUn (zApp w n x) (n + 1) = zS (zUf (zApp w n x)) 1 (n + 1) + zUf (zApp w n x) (n + 1) := zS_succ _ (by omega)
  have e2 : zS (zUf (zApp w n x)) 1 (n + 1) = zUn w n := zS_congr fun t a b => by
    show t - zKn (zApp w n x) t = t - zKn w t
    rw [zKn_congr (w := zApp w n x) (o := w) (fun k k1 k2 => zApp_ne (by omega))]
  omega
