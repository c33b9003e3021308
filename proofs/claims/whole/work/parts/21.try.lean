theorem xtry1 : (xrun 600 5 148 0 (xent 148 [.ref 2]) [] (xmake (10, 33) (xμ0 0 (fun _ => 0)))).isSome = true := by decide +kernel
