/-! decode rows (printed, given for pasting) -/

