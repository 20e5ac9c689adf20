set_option maxHeartbeats 4000000 in
set_option maxRecDepth 100000 in
theorem tA : (match jRun (0, fun _ => 0) 3000 40 18 [.ref 63] [] with
  | some (.inl (some (.int v)), V) => v == 1 && V.length == 90
  | _ => false) = true := by decide +kernel
