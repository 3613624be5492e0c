/-! the reference's pool -/
section MQ
variable {G : GT} {N : NN}
theorem s_mPool {c : Nat} {K : Int → NN → Prop} (hc : N 10 0 2 = (c : Int)) (hc2 : c ≤ 12) (B : ∀ n, n < c → 0 ≤ N 45 0 n ∧ N 45 0 n ≤ 6) (k : K (sumN (fun n => balS (LV N n)) c) N) : C_X10_pool G N K := by
  refine vc_X10_pool ?_
  have e5 : ∀ n, LV N n 5 = N 45 0 n := fun _ => rfl
  have e1 : ∀ n, LV N n 1 = N 41 0 n := fun _ => rfl
  have key : ∀ (d n : Nat) (s : Int), n + d = c → s = sumN (fun n => balS (LV N n)) n → W_X10_pool G K 4 [(0, vR 10 0), (1, vI s), (2, vI (n : Int))] [] N := by
    intro d
    induction d with
    | zero =>
      intro n s h1 h2
      refine vc_X10_pool_4 ?_
      rw [hc, wI_id (x := (c : Int)) (by omega) (by omega), wI_id (x := (n : Int)) (by omega) (by omega)]
      refine ⟨fun _ => ?_, fun q => absurd (by omega) q⟩
      rw [h2, show n = c by omega]
      exact k
    | succ d ih =>
      intro n s h1 h2
      have b := B n (by omega)
      refine vc_X10_pool_4 ?_
      rw [hc, wI_id (x := (c : Int)) (by omega) (by omega), wI_id (x := (n : Int)) (by omega) (by omega)]
      have hs : sumN (fun n => balS (LV N n)) (n + 1) = s + balS (LV N n) := by rw [h2]; rfl
      have w : wI (N 45 0 n) = N 45 0 n := wI_id (by omega) (by omega)
      have nx : ∀ v, v = balS (LV N n) → W_X10_pool G K 4 [(0, vR 10 0), (1, vI (s + v)), (2, vI ((n : Int) + 1))] [] N := fun v hv => ih (n + 1) _ (by omega) (by rw [hs, hv])
      have hn : n < 12 := by omega
      refine ⟨fun q => by omega, fun _ => ⟨n, rfl, hn, ?_⟩⟩
      rw [w]
      refine ⟨fun q => ⟨n, rfl, hn, nx _ ?_⟩, fun q => ⟨n, rfl, hn, ?_⟩⟩
      · unfold balS
        rw [if_pos (.inl (by rw [e5]; exact q)), e1]
      · rw [w]
        refine ⟨fun q2 => ⟨n, rfl, hn, nx _ ?_⟩, fun q2 => ⟨n, rfl, hn, ?_⟩⟩
        · unfold balS
          rw [if_pos (.inr (.inl (by rw [e5]; exact q2))), e1]
        · rw [w]
          refine ⟨fun q3 => nx 0 ?_, fun q3 => ⟨n, rfl, hn, nx _ ?_⟩⟩
          · unfold balS
            rw [if_neg (by rw [e5]; clear w; omega)]
          · unfold balS
            rw [if_pos (.inr (.inr (by rw [e5]; clear w; omega))), e1]
  exact key c 0 0 (by omega) rfl
end MQ
